/-! KINDS, the calls -/
section KJ
variable {d : Nat} {Q : Option AV → AMem → Prop} {sc : SC} {I J : TI}
theorem l_C_fits {k L : Int} {r H : Nat} {x2 : Int} (hH : H ≤ 8) (hs : I 28 r 1 = ((2 * H : Nat) : Int)) (hL : 0 ≤ L ∧ L ≤ 999) (hn : 0 ≤ I 20 0 8 ∧ I 20 0 8 ≤ 1000) (hf : ∀ q, q < 2 * H → prP (I 29 r) q) : ∀ (m q : Nat), q + m = H → ftF k L (I 20 0 8) (I 29 r) q = 1 → (X (d + 4) m_C_fits 6 [some (vr 0 0), some (vi k), some (vi x2), some (vr 28 r), some (vi (rL k L (I 20 0 8) (fun j => I 29 r (2 * j)) q)), some (vi ((2 * q : Nat) : Int))] [] (MM sc I J) Q ↔ Q (some (vi (ftF k L (I 20 0 8) (I 29 r) H))) (MM sc I J))
  | 0, q, e, h1 => by
    have e1 : q = H := by omega
    subst e1
    rw [b_C_fits_6, hs, w32_eq (by omega) (by omega), if_pos (by omega), b_C_fits_69, h1]
  | m + 1, q, e, h1 => by
    have hl : 40 ≤ lenP r := by unfold lenP; split <;> omega
    have hf' : ∀ j, j < H → 0 ≤ I 29 r (2 * j) ∧ I 29 r (2 * j) ≤ 6 := fun j hj => by
      have := hf (2 * j) (by omega)
      unfold prP at this
      rw [if_pos (by omega)] at this
      exact this
    have hj := rL_in (k := k) (n := I 20 0 8) (f := fun j => I 29 r (2 * j)) hL hf' q (by omega)
    have hj1 := rL_in (k := k) (n := I 20 0 8) (f := fun j => I 29 r (2 * j)) hL hf' (q + 1) (by omega)
    have hfq := hf' q (by omega)
    have e2 : w32 (((2 * q : Nat) : Int) + 1) = ((2 * q + 1 : Nat) : Int) := by rw [w32_eq (by omega) (by omega)]; omega
    have e3 : w32 (((2 * q : Nat) : Int) + 2) = ((2 * (q + 1) : Nat) : Int) := by rw [w32_eq (by omega) (by omega)]; omega
    have e4 : w32 (I 20 0 8 + w32 (((2 * q : Nat) : Int).tdiv 2)) = I 20 0 8 + (q : Int) := by rw [td_eq (by omega), w32_eq (x := ((2 * q : Nat) : Int) / 2) (by omega) (by omega), w32_eq (by omega) (by omega)]; omega
    rw [b_C_fits_6, hs, e2, if_neg (by omega), b_C_fits_17, and_iff_right (by omega), Int.toNat_natCast, b_C_fits_27, e4, s_K_lifeThen hfq.1 hfq.2 hj.1 hj.2 (by omega), ap_s, b_C_fits_42]
    have st : lt k (rL k L (I 20 0 8) (fun j => I 29 r (2 * j)) q) (I 29 r (2 * q)) (I 20 0 8 + q) = rL k L (I 20 0 8) (fun j => I 29 r (2 * j)) (q + 1) := rfl
    rw [st, s_L_together hj1.1 hj1.2, ap_s, b_C_fits_49, e2, and_iff_right (by omega), Int.toNat_natCast, b_C_fits_58, b_C_fits_61, b_C_fits_63, e3]
    by_cases z : tg (rL k L (I 20 0 8) (fun j => I 29 r (2 * j)) (q + 1)) = I 29 r (2 * q + 1)
    · rw [if_pos z]
      exact l_C_fits hH hs hL hn hf m (q + 1) (by omega) (by unfold ftF; rw [if_neg (by omega), if_pos z])
    · rw [if_neg z]
      have : ftF k L (I 20 0 8) (I 29 r) (q + 1) = 0 := by unfold ftF; rw [if_neg (by omega), if_neg z]
      have := ft_0 this m
      rw [show q + 1 + m = H by omega] at this
      rw [this]
theorem l_C_ktf {i r H : Nat} (hi : i < 6) (hH : H ≤ 8) (hs : I 28 r 1 = ((2 * H : Nat) : Int)) (hL : 0 ≤ I 22 0 i ∧ I 22 0 i ≤ 999) (hn : 0 ≤ I 20 0 8 ∧ I 20 0 8 ≤ 1000) (hf : ∀ q, q < 2 * H → prP (I 29 r) q) : ∀ (m k : Nat), k + m = 6 → (X (d + 5) m_C_kindsThatFit 5 [some (vr 0 0), some (vi (i : Int)), some (vr 28 r), some (vi (kfF (I 22 0 i) (I 20 0 8) (I 29 r) H k)), some (vi (k : Int))] [] (MM sc I J) Q ↔ Q (some (vi (kfF (I 22 0 i) (I 20 0 8) (I 29 r) H 6))) (MM sc I J))
  | 0, k, e => by
    have e1 : k = 6 := by omega
    subst e1
    rw [b_C_kindsThatFit_5, if_pos (by omega), b_C_kindsThatFit_44]
  | m + 1, k, e => by
    have f0 := l_C_fits (d := d) (sc := sc) (J := J) (I := I) (Q := fun r' mm => X (d + 4 + 1) m_C_kindsThatFit 28 [some (vr 0 0), some (vi (i : Int)), some (vr 28 r), some (vi (kfF (I 22 0 i) (I 20 0 8) (I 29 r) H k)), some (vi (k : Int))] (r'.toList ++ []) mm Q) (k := (k : Int)) (L := I 22 0 i) (x2 := I 22 0 i) hH hs hL hn hf H 0 (by omega) rfl
    rw [b_C_kindsThatFit_5, if_neg (by omega), b_C_kindsThatFit_12, and_iff_right (by omega), Int.toNat_natCast, b_C_kindsThatFit_24, b_C_fits_0]
    refine f0.trans ?_
    rw [ap_s, b_C_kindsThatFit_28, b_C_kindsThatFit_31, b_C_kindsThatFit_38, b_C_kindsThatFit_38, wsuc (by omega)]
    rw [← l_C_ktf hi hH hs hL hn hf m (k + 1) (by omega)]
    rw [kfF]
    split <;> exact Iff.rfl
theorem s_C_ktf {i r H : Nat} (hi : i < 6) (hH : H ≤ 8) (hs : I 28 r 1 = ((2 * H : Nat) : Int)) (hL : 0 ≤ I 22 0 i ∧ I 22 0 i ≤ 999) (hn : 0 ≤ I 20 0 8 ∧ I 20 0 8 ≤ 1000) (hf : ∀ q, q < 2 * H → prP (I 29 r) q) : X (d + 5) m_C_kindsThatFit 0 [some (vr 0 0), some (vi (i : Int)), some (vr 28 r), none, none] [] (MM sc I J) Q ↔ Q (some (vi (kfF (I 22 0 i) (I 20 0 8) (I 29 r) H 6))) (MM sc I J) := by
  rw [b_C_kindsThatFit_0]
  exact l_C_ktf hi hH hs hL hn hf 6 0 (by omega)
theorem l_D_ft {i r H k : Nat} {x3 x4 : Int} {f s : Nat → Int} (hi : i < 6) (hr : r < 6) (hH : H ≤ 8) (hs : I 40 0 r = ((2 * H : Nat) : Int)) (hk : I 45 0 i = k) (hk5 : k ≤ 5) (hd : dg3 s i) (hb : s (19 + i) = 0 ∨ s (19 + i) = 1) (hn : 0 ≤ s 0 ∧ s 0 ≤ 900) (hff : ∀ j, j < 2 * H → I 41 0 (40 * r + j) = f j) (hf : ∀ q, q < 2 * H → prP f q) : ∀ (m q : Nat), q + m = H → (X (d + 3) m_D_kindsOf 38 [some (vr 39 0), some (vi (i : Int)), some (vi (r : Int)), some (vi x3), some (vi x4), some (vi (k : Int)), some (vi (ftF k (lf3 s i) (s 0) f q)), some (vi ((2 * q : Nat) : Int))] [] (MM sc (up2 I 47 0 (cS k i (fun j => f (2 * j)) s q)) J) Q ↔ X (d + 3) m_D_kindsOf 114 [some (vr 39 0), some (vi (i : Int)), some (vi (r : Int)), some (vi x3), some (vi x4), some (vi (k : Int)), some (vi (ftF k (lf3 s i) (s 0) f H)), some (vi ((2 * H : Nat) : Int))] [] (MM sc (up2 I 47 0 (cS k i (fun j => f (2 * j)) s H)) J) Q)
  | 0, q, e => by
    have e1 : q = H := by omega
    subst e1
    rw [b_D_kindsOf_38, and_iff_right (by omega), Int.toNat_natCast, show up2 I 47 0 (cS k i (fun j => f (2 * j)) s q) 40 = I 40 from rfl, hs, b_D_kindsOf_46, if_pos (by omega)]
  | m + 1, q, e => by
    have hf' : ∀ j, j < H → 0 ≤ f (2 * j) ∧ f (2 * j) ≤ 6 := fun j hj => by
      have := hf (2 * j) (by omega)
      unfold prP at this
      rw [if_pos (by omega)] at this
      exact this
    have ok := cS_ok (k := (k : Int)) (f := fun j => f (2 * j)) hi hd hb hf' q (by omega)
    have ok1 := cS_ok (k := (k : Int)) (f := fun j => f (2 * j)) hi hd hb hf' (q + 1) (by omega)
    have okb := cS_b (k := (k : Int)) (f := fun j => f (2 * j)) hi hd hb hf' (j := q) (by omega)
    have hfq := hf' q (by omega)
    have c1 : 0 ≤ ((40 * r + 2 * q : Nat) : Int) ∧ ((40 * r + 2 * q : Nat) : Int) < 240 := by omega
    have c2 : 0 ≤ ((40 * r + (2 * q + 1) : Nat) : Int) ∧ ((40 * r + (2 * q + 1) : Nat) : Int) < 240 := by omega
    have r06 : 0 ≤ (r : Int) ∧ (r : Int) < 6 := by omega
    have lt1 : ¬ ((2 * H : Nat) : Int) ≤ ((2 * q : Nat) : Int) := by omega
    have k0 : 0 ≤ I 45 0 i ∧ I 45 0 i ≤ 5 := by omega
    have n0 : 0 ≤ cS (k : Int) i (fun j => f (2 * j)) s q 0 ∧ cS (k : Int) i (fun j => f (2 * j)) s q 0 ≤ 1000 := by omega
    have e1 : w32 (w32 (40 * (r : Int)) + ((2 * q : Nat) : Int)) = ((40 * r + 2 * q : Nat) : Int) := by rw [w32_eq (x := 40 * (r : Int)) (by omega) (by omega), w32_eq (by omega) (by omega)]; omega
    have e2 : w32 (w32 (w32 (40 * (r : Int)) + ((2 * q : Nat) : Int)) + 1) = ((40 * r + (2 * q + 1) : Nat) : Int) := by rw [e1, w32_eq (by omega) (by omega)]; omega
    have e3 : w32 (((2 * q : Nat) : Int) + 2) = ((2 * (q + 1) : Nat) : Int) := by rw [w32_eq (by omega) (by omega)]; omega
    have crn := s_D_crN (d := d) (sc := sc) (I := I) (J := J) (s := cS (k : Int) i (fun j => f (2 * j)) s q) (i := i) (c := f (2 * q)) (Q := fun r' mm => X (d + 2 + 1) m_D_kindsOf 70 [some (vr 39 0), some (vi (i : Int)), some (vi (r : Int)), some (vi x3), some (vi x4), some (vi (k : Int)), some (vi (ftF k (lf3 s i) (s 0) f q)), some (vi ((2 * q : Nat) : Int))] (r'.toList ++ []) mm Q) hi k0.1 k0.2 hfq.1 hfq.2 ok.2.1 n0.1 n0.2 okb
    rw [hk] at crn
    rw [b_D_kindsOf_38, and_iff_right r06, Int.toNat_natCast, show up2 I 47 0 (cS k i (fun j => f (2 * j)) s q) 40 = I 40 from rfl, hs, b_D_kindsOf_46, if_neg lt1, b_D_kindsOf_49, e1, and_iff_right c1, Int.toNat_natCast, show up2 I 47 0 (cS k i (fun j => f (2 * j)) s q) 41 = I 41 from rfl, hff _ (by omega), b_D_kindsOf_67]
    refine crn.trans ?_
    have cc : crS (k : Int) (cS (k : Int) i (fun j => f (2 * j)) s q) i (f (2 * q)) = cS (k : Int) i (fun j => f (2 * j)) s (q + 1) := rfl
    rw [cc, ap_s, b_D_kindsOf_70, b_D_kindsOf_105, b_D_kindsOf_106, e3, b_D_kindsOf_76, s_D_togetherOf (t := 47) (fun _ _ => rfl) hi (by rw [up2_same]; exact ok1.2.1), up2_same, ok1.1, ap_s, b_D_kindsOf_84, e2, and_iff_right c2, Int.toNat_natCast, show up2 I 47 0 (cS k i (fun j => f (2 * j)) s (q + 1)) 41 = I 41 from rfl, hff _ (by omega), b_D_kindsOf_98, b_D_kindsOf_101, b_D_kindsOf_105, b_D_kindsOf_106, b_D_kindsOf_106, e3]
    rw [← l_D_ft hi hr hH hs hk hk5 hd hb hn hff hf m (q + 1) (by omega)]
    rw [ftF]
    by_cases z : ftF k (lf3 s i) (s 0) f q = 0
    · rw [if_pos z, if_pos z]
    · rw [if_neg z, if_neg z]
      split <;> exact Iff.rfl
end KJ
