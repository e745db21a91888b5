/-! CHANCES, the reference -/
def oK (k L n b0 : Int) (f β : Nat → Int) (i : Nat) (s : Nat → Int) (j : Nat) : Prop := lf3 s i = odL k L n f β j ∧ dg3 s i ∧ s 0 = n + j ∧ s (19 + i) = if oC k L n f β j % 2 = 0 then b0 else 1 - b0
theorem oK_skip {k L n b0 : Int} {f β : Nat → Int} {i : Nat} {s : Nat → Int} {j : Nat} (h : oK k L n b0 f β i s j) (hb : β j = 0) : oK k L n b0 f β i (upF s 0 (s 0 + 1)) (j + 1) := by
  obtain ⟨a, b, c, e⟩ := h
  have r : ∀ p, p ≠ 0 → upF s 0 (s 0 + 1) p = s p := fun p hp => if_neg hp
  refine ⟨?_, ?_, ?_, ?_⟩
  · rw [odL, if_pos hb, ← a]
    unfold lf3
    rw [r _ (by omega), r _ (by omega), r _ (by omega)]
  · unfold dg3
    rw [r _ (by omega), r _ (by omega), r _ (by omega)]
    exact b
  · show s 0 + 1 = n + ((j + 1 : Nat) : Int)
    omega
  · rw [r _ (by omega), oC, if_pos hb, Int.add_zero, e]
theorem oK_cross {k L n b0 : Int} {f β : Nat → Int} {i : Nat} {s : Nat → Int} {j : Nat} (hi : i < 6) (h : oK k L n b0 f β i s j) (hb : ¬ β j = 0) (hf : 0 ≤ f j ∧ f j ≤ 6) (hc : 0 ≤ oC k L n f β j) : oK k L n b0 f β i (crS k s i (f j)) (j + 1) := by
  obtain ⟨a, b, c, e⟩ := h
  have q := crS_lf (k := k) hi b hf.1 hf.2
  have bk := crS_bank (k := k) (s := s) hi hf.1 hf.2
  refine ⟨?_, q.2, ?_, ?_⟩
  · rw [odL, if_neg hb, q.1, a, c]
  · rw [crS_0, c]
    omega
  · rw [bk, a, c, e, oC, if_neg hb]
    by_cases z : ld k (odL k L n f β j) (f j) (n + j) = -1
    · rw [if_pos z, if_pos z, Int.add_zero]
    · rw [if_neg z, if_neg z]
      by_cases y : oC k L n f β j % 2 = 0
      · rw [if_pos y, if_neg (by omega)]
      · rw [if_neg y, if_pos (by omega)]
        omega
theorem w40 {r j : Nat} (hr : r < 6) (hj : j ≤ 40) : w32 (w32 (40 * (r : Int)) + (j : Int)) = ((40 * r + j : Nat) : Int) := by rw [w32_eq (x := 40 * (r : Int)) (by omega) (by omega), w32_eq (by omega) (by omega)]; omega
theorem w19 {i : Nat} (hi : i < 6) : w32 (19 + (i : Int)) = ((19 + i : Nat) : Int) := by rw [w32_eq (by omega) (by omega)]; omega
section OD
variable {d : Nat} {Q : Option AV → AMem → Prop} {sc : SC} {I J : TI}
theorem l_D_fl {i r S t : Nat} {p z u a : Int} {f : Nat → Int} (hi : i < 6) (hr : r < 6) (hS : S ≤ 6) (hs : I 40 0 r = S) (hk : 0 ≤ I 45 0 i) (hk2 : I 45 0 i ≤ 5) (hb : I 46 0 (19 + i) = 0 ∨ I 46 0 (19 + i) = 1) (hn : 0 ≤ I 46 0 0 ∧ I 46 0 0 ≤ 900) (hff : ∀ j, j < S → I 41 0 (40 * r + j) = f j) (hf : ∀ j, j < S → 0 ≤ f j ∧ f j ≤ 6) (hp : 0 ≤ p ∧ p ≤ 12) (ht : t < 64)
    (hQ : ∀ s, oK (I 45 0 i) (lf3 (I 46 0) i) (I 46 0 0) (I 46 0 (19 + i)) f (fun q => 1 - bs (t : Int) q) i s S → X (d + 3) m_D_failing 112 [some (vr 39 0), some (vi (i : Int)), some (vi (r : Int)), some (vi p), some (vi z), some (vl u), none, some (vl a), none, some (vi (t : Int)), some (vl (oS p (fun q => 1 - bs (t : Int) q) S)), none, some (vi (S : Int))] [] (MM sc (up2 I 47 0 s) J) Q) : ∀ (m j : Nat) (s : Nat → Int), j + m = S → oK (I 45 0 i) (lf3 (I 46 0) i) (I 46 0 0) (I 46 0 (19 + i)) f (fun q => 1 - bs (t : Int) q) i s j → X (d + 3) m_D_failing 32 [some (vr 39 0), some (vi (i : Int)), some (vi (r : Int)), some (vi p), some (vi z), some (vl u), none, some (vl a), none, some (vi (t : Int)), some (vl (oS p (fun q => 1 - bs (t : Int) q) j)), none, some (vi (j : Int))] [] (MM sc (up2 I 47 0 s) J) Q
  | 0, j, s, e, h => by
    have e1 : j = S := by omega
    subst e1
    rw [b_D_failing_32, and_iff_right (by omega), Int.toNat_natCast, show up2 I 47 0 s 40 0 r = I 40 0 r from rfl, hs, b_D_failing_40, if_pos (by omega)]
    exact hQ s h
  | m + 1, j, s, e, h => by
    have sin := oS_b (β := fun q => 1 - bs (t : Int) q) hp (show j ≤ 6 by omega)
    have cin := oC_in (k := I 45 0 i) (L := lf3 (I 46 0) i) (n := I 46 0 0) (f := f) (β := fun q => 1 - bs (t : Int) q) j
    have m1 := mulb sin.1 sin.2 hp.1 hp.2
    have m2 := mulb sin.1 sin.2 (show 0 ≤ 12 - p by omega) (show 12 - p ≤ 12 by omega)
    have bo : i_and (i_shr (t : Int) (j : Int)) 1 = bs (t : Int) j := by unfold bs bt; rw [if_pos (by omega)]
    have b01 := bs_01 (set := (t : Int)) (by omega) j
    have s0 := h.2.2.1
    rw [b_D_failing_32, and_iff_right (by omega), Int.toNat_natCast, show up2 I 47 0 s 40 0 r = I 40 0 r from rfl, hs, b_D_failing_40, if_neg (by omega), b_D_failing_43, bo]
    by_cases z1 : bs (t : Int) j = 1
    · have bz : (fun q => 1 - bs (t : Int) q) j = 0 := by show 1 - bs (t : Int) j = 0; omega
      have ih := l_D_fl (z := z) (u := u) (a := a) hi hr hS hs hk hk2 hb hn hff hf hp ht hQ m (j + 1) (upF s 0 (s 0 + 1)) (by omega) (oK_skip h bz)
      rw [oS, if_pos bz] at ih
      rw [if_pos z1, b_D_failing_54, and_iff_right (by decide), b_D_failing_68, and_iff_right (by decide), b_D_failing_71, b_D_failing_106, wsuc (by omega), w64_eq (by omega) (by omega), up2_up, up2_same]
      show X (d + 3) m_D_failing 32 [some (vr 39 0), some (vi (i : Int)), some (vi (r : Int)), some (vi p), some (vi z), some (vl u), none, some (vl a), none, some (vi (t : Int)), some (vl (oS p (fun q => 1 - bs (t : Int) q) j * p)), none, some (vi ((j + 1 : Nat) : Int))] [] (MM sc (up2 I 47 0 (upF s 0 (w32 (s 0 + 1)))) J) Q
      rw [w32_eq (by omega) (by omega)]
      exact ih
    · have bz : ¬ (fun q => 1 - bs (t : Int) q) j = 0 := by show ¬ 1 - bs (t : Int) j = 0; omega
      have fj := hf j (by omega)
      have ih := l_D_fl (z := z) (u := u) (a := a) hi hr hS hs hk hk2 hb hn hff hf hp ht hQ m (j + 1) (crS (I 45 0 i) s i (f j)) (by omega) (oK_cross hi h bz fj cin.1)
      rw [oS, if_neg bz] at ih
      have sb : s (19 + i) = 0 ∨ s (19 + i) = 1 := by rw [h.2.2.2]; split <;> omega
      rw [if_neg z1, b_D_failing_74, w40 hr (by omega), and_iff_right (by omega), Int.toNat_natCast, w32_eq (x := 12 - p) (by omega) (by omega), w64_eq (by omega) (by omega), show up2 I 47 0 s 41 0 (40 * r + j) = I 41 0 (40 * r + j) from rfl, hff j (by omega), b_D_failing_102, s_D_crN hi hk hk2 fj.1 fj.2 h.2.1 (by omega) (by omega) sb, ap_s, b_D_failing_105, b_D_failing_106, wsuc (by omega)]
      exact ih
theorem l_D_fs {i r S : Nat} {p z : Int} {f : Nat → Int} (hi : i < 6) (hr : r < 6) (hS : S ≤ 6) (hs : I 40 0 r = S) (hk : 0 ≤ I 45 0 i) (hk2 : I 45 0 i ≤ 5) (hd : dg3 (I 46 0) i) (hb : I 46 0 (19 + i) = 0 ∨ I 46 0 (19 + i) = 1) (hn : 0 ≤ I 46 0 0 ∧ I 46 0 0 ≤ 900) (hff : ∀ j, j < S → I 41 0 (40 * r + j) = f j) (hf : ∀ j, j < S → 0 ≤ f j ∧ f j ≤ 6) (hp : 0 ≤ p ∧ p ≤ 12)
    (hQ : ∀ s (o1 o2 : Option AV), X (d + 3) m_D_failing 177 [some (vr 39 0), some (vi (i : Int)), some (vi (r : Int)), some (vi p), some (vi z), some (vl (sm (fun t => eV (I 45 0 i) (lf3 (I 46 0) i) (I 46 0 0) f p z S (2 ^ S - 1 - t)) (2 ^ S))), none, some (vl (sm (fun t => oS p (fun q => 1 - bs (t : Int) q) S) (2 ^ S))), none, some (vi ((2 ^ S : Nat) : Int)), o1, none, o2] [] (MM sc (up2 I 47 0 s) J) Q) : ∀ (m t : Nat) (s : Nat → Int) (o1 o2 : Option AV), t + m = 2 ^ S → X (d + 3) m_D_failing 9 [some (vr 39 0), some (vi (i : Int)), some (vi (r : Int)), some (vi p), some (vi z), some (vl (sm (fun t => eV (I 45 0 i) (lf3 (I 46 0) i) (I 46 0 0) f p z S (2 ^ S - 1 - t)) t)), none, some (vl (sm (fun t => oS p (fun q => 1 - bs (t : Int) q) S) t)), none, some (vi (t : Int)), o1, none, o2] [] (MM sc (up2 I 47 0 s) J) Q
  | 0, t, s, o1, o2, e => by
    have e1 : t = 2 ^ S := by omega
    subst e1
    rw [b_D_failing_9, and_iff_right (by omega), Int.toNat_natCast, show up2 I 47 0 s 40 0 r = I 40 0 r from rfl, hs, b_D_failing_18, shl_n hS, if_pos (by omega)]
    exact hQ s o1 o2
  | m + 1, t, s, o1, o2, e => by
    have pw := pow_in hS
    have hL := lf3_in hd
    have t2 : t < 2 ^ S := by omega
    have ev : ∀ j, j < 64 → 0 ≤ (fun t => eV (I 45 0 i) (lf3 (I 46 0) i) (I 46 0 0) f p z S (2 ^ S - 1 - t)) j ∧ (fun t => eV (I 45 0 i) (lf3 (I 46 0) i) (I 46 0 0) f p z S (2 ^ S - 1 - t)) j ≤ 80621568 := fun j _ => eV_in hL hp hS hf
    have sb := sm_in ev t (by omega)
    have eb : 0 ≤ eV (I 45 0 i) (lf3 (I 46 0) i) (I 46 0 0) f p z S (2 ^ S - 1 - t) ∧ eV (I 45 0 i) (lf3 (I 46 0) i) (I 46 0 0) f p z S (2 ^ S - 1 - t) ≤ 80621568 := eV_in hL hp hS hf
    have gv : ∀ j, j < 64 → 0 ≤ (fun t : Nat => oS p (fun q => 1 - bs (t : Int) q) S) j ∧ (fun t : Nat => oS p (fun q => 1 - bs (t : Int) q) S) j ≤ 2985984 := fun j _ => oS_b hp hS
    have sg := sm_in gv t (by omega)
    have gb := oS_b (β := fun q => 1 - bs (t : Int) q) hp hS
    have er := eV_rev (k := I 45 0 i) (L := lf3 (I 46 0) i) (n := I 46 0 0) (p := p) (z := z) (f := f) (g := f) hS t2 (fun _ _ => rfl)
    have cin := oC_in (k := I 45 0 i) (L := lf3 (I 46 0) i) (n := I 46 0 0) (f := f) (β := fun q => 1 - bs (t : Int) q) S
    have nw := nw_ok (I := I) (s := s) hi hd
    rw [b_D_failing_9, and_iff_right (by omega), Int.toNat_natCast, show up2 I 47 0 s 40 0 r = I 40 0 r from rfl, hs, b_D_failing_18, shl_n hS, if_neg (by omega), b_D_failing_22, s_D_asItIs, ap_n, b_D_failing_29]
    refine l_D_fl (z := z) hi hr hS hs hk hk2 hb hn hff hf hp (by omega) (fun s' h' => ?_) S 0 (nwS I s) (by omega) ⟨nw.1, nw.2.1, by rw [nw.2.2.1]; show I 46 0 0 = I 46 0 0 + ((0 : Nat) : Int); omega, nw.2.2.2⟩
    have ih := fun s o1 o2 => l_D_fs hi hr hS hs hk hk2 hd hb hn hff hf hp hQ m (t + 1) s o1 o2 (by omega)
    have ua : sm (fun t => oS p (fun q => 1 - bs (t : Int) q) S) (t + 1) = sm (fun t => oS p (fun q => 1 - bs (t : Int) q) S) t + oS p (fun q => 1 - bs (t : Int) q) S := rfl
    have ue : sm (fun t => eV (I 45 0 i) (lf3 (I 46 0) i) (I 46 0 0) f p z S (2 ^ S - 1 - t)) (t + 1) = sm (fun t => eV (I 45 0 i) (lf3 (I 46 0) i) (I 46 0 0) f p z S (2 ^ S - 1 - t)) t + eV (I 45 0 i) (lf3 (I 46 0) i) (I 46 0 0) f p z S (2 ^ S - 1 - t) := rfl
    rw [ua, ue] at ih
    generalize hA : sm (fun t => oS p (fun q => 1 - bs (t : Int) q) S) t = A at *
    generalize hE : sm (fun t => eV (I 45 0 i) (lf3 (I 46 0) i) (I 46 0 0) f p z S (2 ^ S - 1 - t)) t = E at *
    rw [b_D_failing_112, w64_eq (x := A + oS p (fun q => 1 - bs (t : Int) q) S) (by omega) (by omega)]
    unfold oV at er
    by_cases z0 : z = 0
    · rw [if_pos z0] at er ⊢
      rw [b_D_failing_156, s_D_togetherOf (t := 47) (fun _ _ => rfl) hi (by rw [up2_same]; exact h'.2.1), up2_same, h'.1, ap_s, b_D_failing_166, er, w64_eq (by omega) (by omega), b_D_failing_168, w64_eq (by omega) (by omega), wsuc (by omega)]
      exact ih s' _ _
    · rw [if_neg z0] at er ⊢
      rw [b_D_failing_126, w19 hi, and_iff_right (by omega), Int.toNat_natCast, up2_same, h'.2.2.2, b_D_failing_135, w19 hi, and_iff_right (by omega), Int.toNat_natCast, show up2 I 47 0 s' 46 0 (19 + i) = I 46 0 (19 + i) from rfl, b_D_failing_144]
      by_cases y : oC (I 45 0 i) (lf3 (I 46 0) i) (I 46 0 0) f (fun q => 1 - bs (t : Int) q) S % 2 = 0
      · rw [y, Int.mul_zero] at er
        rw [← er, Int.add_zero] at ih
        rw [if_pos y, if_pos rfl, b_D_failing_147, b_D_failing_168, Int.add_zero, w64_eq (by omega) (by omega), wsuc (by omega)]
        exact ih s' _ _
      · rw [show oC (I 45 0 i) (lf3 (I 46 0) i) (I 46 0 0) f (fun q => 1 - bs (t : Int) q) S % 2 = 1 by omega, Int.mul_one] at er
        rw [if_neg y, if_neg (by omega), b_D_failing_151, b_D_failing_168, w64_eq (by omega) (by omega), wsuc (by omega)]
        rw [← er] at ih
        exact ih s' _ _
end OD
