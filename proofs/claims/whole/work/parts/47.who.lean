/-! WHO ONE IS: the reference's side -/
theorem i_or_0 {x : Int} (h : i32 x) : i_or x 0 = x := by
  unfold i_or
  rw [show Int32.ofInt 0 = 0 from by decide, Int32.or_zero, tI h]
def dg3 (s : Nat → Int) (i : Nat) : Prop := (0 ≤ s (1 + 3 * i) ∧ s (1 + 3 * i) ≤ 9) ∧ (0 ≤ s (2 + 3 * i) ∧ s (2 + 3 * i) ≤ 9) ∧ (0 ≤ s (3 + 3 * i) ∧ s (3 + 3 * i) ≤ 9)
theorem lf3_in {s : Nat → Int} {i : Nat} (h : dg3 s i) : 0 ≤ lf3 s i ∧ lf3 s i ≤ 999 := by
  unfold dg3 at h; unfold lf3; omega
theorem dg_lf {s : Nat → Int} {i w : Nat} (h : dg3 s i) (hw : w < 3) : dg (lf3 s i) (w : Int) = s (1 + 3 * i + w) := by
  unfold dg3 at h
  have : w = 0 ∨ w = 1 ∨ w = 2 := by omega
  rcases this with e | e | e <;> subst e
  · show lf3 s i / 100 = s (1 + 3 * i)
    unfold lf3; omega
  · show lf3 s i / 10 % 10 = s (1 + 3 * i + 1)
    rw [show 1 + 3 * i + 1 = 2 + 3 * i by omega]
    unfold lf3; omega
  · show lf3 s i % 10 = s (1 + 3 * i + 2)
    rw [show 1 + 3 * i + 2 = 3 + 3 * i by omega]
    unfold lf3; omega
theorem tg_lf {s : Nat → Int} {i : Nat} (h : dg3 s i) : tg (lf3 s i) = s (1 + 3 * i) + s (2 + 3 * i) + s (3 + 3 * i) := by
  unfold dg3 at h; unfold tg lf3; omega
theorem wch_nat {k c : Int} (h : 0 ≤ c) (h2 : c ≤ 6) : ∃ w : Nat, w < 3 ∧ wch k c = (w : Int) := by
  rcases wch_in (k := k) h h2 with e | e | e
  · exact ⟨0, by omega, e⟩
  · exact ⟨1, by omega, e⟩
  · exact ⟨2, by omega, e⟩
theorem up2_up {I : TI} {t i p : Nat} {f : Nat → Int} {v : Int} : upI (up2 I t i f) t i p v = up2 I t i (upF f p v) := by
  funext t' i' p'
  simp only [rd_up, rd_up2, upF]
  (repeat' split) <;> first | rfl | (exfalso; omega)
def crS (k : Int) (s : Nat → Int) (i : Nat) (c : Int) : Nat → Int := fun p => if p = 0 then s 0 + 1 else if ld k (lf3 s i) c (s 0) = -1 then s p else if c ≠ 0 ∧ p = 1 + 3 * i + (wch k c).toNat then s p + chg k c (s 0) else if p = 19 + i then 1 - s p else s p
theorem ld_c0 {k L n : Int} : ld k L 0 n = if k = 5 then L else -1 := by
  unfold ld
  rw [if_pos rfl]
theorem ld_w {k c n : Int} {s : Nat → Int} {i w : Nat} (hd : dg3 s i) (hc : c ≠ 0) (hw : w < 3) (e : wch k c = (w : Int)) : ld k (lf3 s i) c n = if s (1 + 3 * i + w) + chg k c n < 0 ∨ 9 < s (1 + 3 * i + w) + chg k c n then -1 else lf3 s i + chg k c n * wth w := by
  unfold ld
  rw [if_neg hc, e, dg_lf hd hw]
theorem crS_lf {k c : Int} {s : Nat → Int} {i : Nat} (hi : i < 6) (hd : dg3 s i) (h : 0 ≤ c) (h2 : c ≤ 6) : lf3 (crS k s i c) i = lt k (lf3 s i) c (s 0) ∧ dg3 (crS k s i c) i := by
  obtain ⟨w, hw, e⟩ := wch_nat (k := k) h h2
  have hL := lf3_in hd
  by_cases q : ld k (lf3 s i) c (s 0) = -1
  · have r : ∀ p, p ≠ 0 → crS k s i c p = s p := fun p hp => by
      unfold crS
      rw [if_neg hp, if_pos q]
    unfold lt lf3 dg3
    rw [r _ (by omega), r _ (by omega), r _ (by omega)]
    exact ⟨by rw [if_pos (by exact q)], hd⟩
  · by_cases c0 : c = 0
    · have r : ∀ p, p ≠ 0 → p ≠ 19 + i → crS k s i c p = s p := fun p hp hp2 => by
        unfold crS
        rw [if_neg hp, if_neg q, if_neg (fun z => z.1 c0), if_neg hp2]
      unfold lt
      rw [if_neg q]
      subst c0
      rw [ld_c0] at q ⊢
      by_cases k5 : k = 5
      · rw [if_pos k5]
        unfold lf3 dg3
        rw [r _ (by omega) (by omega), r _ (by omega) (by omega), r _ (by omega) (by omega)]
        exact ⟨rfl, hd⟩
      · rw [if_neg k5] at q
        exact absurd rfl q
    · have r : ∀ p, p ≠ 0 → p ≠ 19 + i → crS k s i c p = if p = 1 + 3 * i + w then s p + chg k c (s 0) else s p := fun p hp hp2 => by
        unfold crS
        rw [if_neg hp, if_neg q, e, Int.toNat_natCast]
        by_cases z : p = 1 + 3 * i + w
        · rw [if_pos ⟨c0, z⟩, if_pos z]
        · rw [if_neg (fun y => z y.2), if_neg z, if_neg hp2]
      have lw := ld_w (n := s 0) hd c0 hw e
      unfold lt
      rw [if_neg q]
      rw [lw] at q ⊢
      by_cases z : s (1 + 3 * i + w) + chg k c (s 0) < 0 ∨ 9 < s (1 + 3 * i + w) + chg k c (s 0)
      · rw [if_pos z] at q
        exact absurd rfl q
      · rw [if_neg z]
        unfold lf3 dg3
        unfold dg3 at hd
        rw [r _ (by omega) (by omega), r _ (by omega) (by omega), r _ (by omega) (by omega)]
        have : w = 0 ∨ w = 1 ∨ w = 2 := by omega
        rcases this with e | e | e <;> subst e
        · rw [if_pos (by omega), if_neg (by omega), if_neg (by omega), show wth ((0 : Nat) : Int) = 100 from rfl]
          rw [show 1 + 3 * i + 0 = 1 + 3 * i from rfl] at z
          omega
        · rw [if_neg (by omega), if_pos (by omega), if_neg (by omega), show wth ((1 : Nat) : Int) = 10 from rfl]
          rw [show 1 + 3 * i + 1 = 2 + 3 * i by omega] at z
          omega
        · rw [if_neg (by omega), if_neg (by omega), if_pos (by omega), show wth ((2 : Nat) : Int) = 1 from rfl]
          rw [show 1 + 3 * i + 2 = 3 + 3 * i by omega] at z
          omega
theorem crS_0 {k c : Int} {s : Nat → Int} {i : Nat} : crS k s i c 0 = s 0 + 1 := rfl
theorem crS_ne {k c : Int} {s : Nat → Int} {i p : Nat} (h : 0 ≤ c) (h2 : c ≤ 6) (hp : p ≠ 0) (hp1 : p ≠ 1 + 3 * i) (hp2 : p ≠ 2 + 3 * i) (hp3 : p ≠ 3 + 3 * i) (hp4 : p ≠ 19 + i) : crS k s i c p = s p := by
  obtain ⟨w, hw, e⟩ := wch_nat (k := k) h h2
  unfold crS
  rw [if_neg hp, e, Int.toNat_natCast, if_neg (show ¬ (c ≠ 0 ∧ p = 1 + 3 * i + w) by omega), if_neg hp4]
  split <;> rfl
theorem crS_bank {k c : Int} {s : Nat → Int} {i : Nat} (hi : i < 6) (h : 0 ≤ c) (h2 : c ≤ 6) : crS k s i c (19 + i) = if ld k (lf3 s i) c (s 0) = -1 then s (19 + i) else 1 - s (19 + i) := by
  obtain ⟨w, hw, e⟩ := wch_nat (k := k) h h2
  unfold crS
  rw [if_neg (by omega), e, Int.toNat_natCast, if_neg (show ¬ (c ≠ 0 ∧ 19 + i = 1 + 3 * i + w) by omega), if_pos rfl]
def lnF (k L n : Int) : Nat → Int
  | 0 => 0
  | c + 1 => if ld k L c n = -1 then lnF k L n c else i_or (lnF k L n c) (i_shl 1 c)
theorem lnF_i32 (k L n : Int) : ∀ c : Nat, i32 (lnF k L n c)
  | 0 => i32_0
  | c + 1 => by
    unfold lnF
    split
    · exact lnF_i32 k L n c
    · exact i32_of _
def lst (a b c : Int) : Int := if b < a then (if c < b then 2 else 1) else (if c < a then 2 else 0)
def cB (f : Nat → Int) (i : Nat) : Nat → Int
  | 0 => 0
  | j + 1 => cB f i j + (if j ≠ i ∧ f j = f i then 1 else 0)
theorem cB_in (f : Nat → Int) (i : Nat) : ∀ j : Nat, 0 ≤ cB f i j ∧ cB f i j ≤ j
  | 0 => ⟨Int.le_refl _, Int.le_refl _⟩
  | j + 1 => by
    have := cB_in f i j
    unfold cB
    split <;> omega
theorem cB_eq {f g : Nat → Int} {i n : Nat} (hi : f i = g i) : ∀ {j : Nat}, j ≤ n → (∀ q, q < n → f q = g q) → cB f i j = cB g i j
  | 0, _, _ => rfl
  | j + 1, hj, h => by
    unfold cB
    rw [cB_eq hi (by omega) h, h j (by omega), hi]
section WH
variable {d : Nat} {Q : Option AV → AMem → Prop} {sc : SC} {I J : TI}
theorem s_D_whichBy {i : Nat} {c : Int} (hi : i < 6) (h1 : 1 ≤ c) (h2 : c ≤ 6) : X d m_D_whichBy 0 [some (vr 39 0), some (vi (i : Int)), some (vi c), none] [] (MM sc I J) Q ↔ Q (some (vi (wch (I 45 0 i) c))) (MM sc I J) := by
  have e1 : w32 ((w32 (c - 1)).tdiv 2) = (c - 1) / 2 := by rw [w32_eq (x := c - 1) (by omega) (by omega), td_eq (by omega), w32_eq (by omega) (by omega)]
  have e2 : (w32 ((c - 1) / 2 + 1)).tmod 3 = ((c - 1) / 2 + 1) % 3 := by rw [w32_eq (by omega) (by omega), tm_eq (by omega)]
  rw [b_D_whichBy_0, and_iff_right (by omega), e1, Int.toNat_natCast, b_D_whichBy_12, b_D_whichBy_16, b_D_whichBy_24, b_D_whichBy_25, b_D_whichBy_25, e2]
  unfold wch
  rw [if_neg (show ¬ c = 0 by omega)]
  by_cases k3 : I 45 0 i = 3
  · rw [if_pos k3, if_pos k3]
  · rw [if_neg k3, if_neg k3]
theorem s_D_changeBy {i : Nat} {c n : Int} (hi : i < 6) (hk : 0 ≤ I 45 0 i) (hk2 : I 45 0 i ≤ 5) (h1 : 1 ≤ c) (hn : 0 ≤ n) : X d m_D_changeBy 0 [some (vr 39 0), some (vi (i : Int)), some (vi c), some (vi n), none] [] (MM sc I J) Q ↔ Q (some (vi (chg (I 45 0 i) c n))) (MM sc I J) := by
  have i0 : (0 : Int) ≤ i := by omega
  have i6 : (i : Int) < 6 := by omega
  have c0 : ¬ c = 0 := by omega
  have t1 : w32 (2 * 1) = 2 := by decide
  have t2 : w32 (2 * (-1)) = -2 := by decide
  have t3 : w32 (-1) = -1 := by decide
  have t4 : w32 (-(-1)) = 1 := by decide
  simp only [b_D_changeBy_0, b_D_changeBy_7, b_D_changeBy_11, b_D_changeBy_12, b_D_changeBy_20, b_D_changeBy_56, b_D_changeBy_61, b_D_changeBy_67, b_D_changeBy_74, b_D_changeBy_76, b_D_changeBy_77, b_D_changeBy_81, tm_eq (show 0 ≤ c by omega), tm_eq hn, i0, i6, i10, ap_s, ap_n, and_self, and_true, true_and, if_true, if_false, not_true_eq_false, not_false_eq_true, Int.toNat_natCast, t1, t2, t3, t4, chg, stpk, c0]
  have kk : I 45 0 i = 0 ∨ I 45 0 i = 1 ∨ I 45 0 i = 2 ∨ I 45 0 i = 3 ∨ I 45 0 i = 4 ∨ I 45 0 i = 5 := by omega
  have cc : c % 2 = 0 ∨ c % 2 = 1 := by omega
  have nn : n % 2 = 0 ∨ n % 2 = 1 := by omega
  rcases kk with e | e | e | e | e | e <;> rcases cc with z | z <;> rcases nn with y | y <;> simp [e, z, y]
theorem s_D_mayLand {t i : Nat} {c : Int} (ht : ∀ f g, cellF sc t 0 f g = .inl (0, 25, f)) (hi : i < 6) (hk : 0 ≤ I 45 0 i) (hk2 : I 45 0 i ≤ 5) (h1 : 0 ≤ c) (h2 : c ≤ 6) (hd : dg3 (I t 0) i) (hn : 0 ≤ I t 0 0) : X (d + 1) m_D_mayLand 0 [some (vr 39 0), some (vr t 0), some (vi (i : Int)), some (vi c)] [] (MM sc I J) Q ↔ Q (some (vi (if ld (I 45 0 i) (lf3 (I t 0) i) c (I t 0 0) = -1 then 0 else 1))) (MM sc I J) := by
  have hL := lf3_in hd
  by_cases c0 : c = 0
  · subst c0
    rw [b_D_mayLand_0, if_pos rfl, b_D_mayLand_4, and_iff_right (by omega), Int.toNat_natCast, b_D_mayLand_10, b_D_mayLand_14, b_D_mayLand_18, b_D_mayLand_19, b_D_mayLand_19, ld_c0]
    by_cases k5 : I 45 0 i = 5
    · have : ¬ lf3 (I t 0) i = -1 := by omega
      simp [k5, this]
    · simp [k5]
  · obtain ⟨w, hw, e⟩ := wch_nat (k := I 45 0 i) h1 h2
    have hw3 : w = 0 ∨ w = 1 ∨ w = 2 := by omega
    have e3 : w32 (w32 (1 + w32 (3 * (i : Int))) + (w : Int)) = ((1 + 3 * i + w : Nat) : Int) := by rw [w32_eq (x := 3 * (i : Int)) (by omega) (by omega), w32_eq (x := 1 + 3 * (i : Int)) (by omega) (by omega), w32_eq (by omega) (by omega)]; omega
    have hc := chg_in (I 45 0 i) c (I t 0 0)
    have hdd : 0 ≤ I t 0 (1 + 3 * i + w) ∧ I t 0 (1 + 3 * i + w) ≤ 9 := by
      have := dg_in (t := (w : Int)) hL.1 hL.2
      rw [dg_lf hd hw] at this
      exact this
    have hp : 0 ≤ lf3 (I t 0) i ∧ lf3 (I t 0) i ≤ 999 := hL
    have lw := ld_w (n := I t 0 0) hd c0 hw e
    have li := ld_in (k := I 45 0 i) (n := I t 0 0) h1 h2 hL.1 hL.2
    rw [b_D_mayLand_0, if_neg c0, b_D_mayLand_20, s_D_whichBy hi (by omega) h2, ap_s, e, b_D_mayLand_32 ht, e3, and_iff_right (by omega), Int.toNat_natCast, b_D_mayLand_34 ht, and_iff_right (by omega), show (0 : Int).toNat = 0 from rfl, b_D_mayLand_40, s_D_changeBy hi hk hk2 (by omega) hn, ap_s, b_D_mayLand_43, w32_eq (by omega) (by omega), s_D_in, ap_s, b_D_mayLand_50]
    by_cases z : I t 0 (1 + 3 * i + w) + chg (I 45 0 i) c (I t 0 0) < 0 ∨ 9 < I t 0 (1 + 3 * i + w) + chg (I 45 0 i) c (I t 0 0)
    · have lw' : ld (I 45 0 i) (lf3 (I t 0) i) c (I t 0 0) = -1 := by rw [lw, if_pos z]
      rw [if_pos lw', if_neg (by omega)]
      simp
    · have lw' : ¬ ld (I 45 0 i) (lf3 (I t 0) i) c (I t 0 0) = -1 := by
        rw [lw, if_neg z]
        unfold dg3 at hd
        rcases hw3 with e | e | e <;> subst e
        · rw [show wth ((0 : Nat) : Int) = 100 from rfl]
          rw [show 1 + 3 * i + 0 = 1 + 3 * i from rfl] at z
          unfold lf3
          omega
        · rw [show wth ((1 : Nat) : Int) = 10 from rfl]
          rw [show 1 + 3 * i + 1 = 2 + 3 * i by omega] at z
          unfold lf3
          omega
        · rw [show wth ((2 : Nat) : Int) = 1 from rfl]
          rw [show 1 + 3 * i + 2 = 3 + 3 * i by omega] at z
          unfold lf3
          omega
      rw [if_neg lw', if_pos (by omega)]
      simp
theorem s_D_crosses {t i : Nat} {c : Int} (ht : ∀ f g, cellF sc t 0 f g = .inl (0, 25, f)) (hi : i < 6) (hk : 0 ≤ I 45 0 i) (hk2 : I 45 0 i ≤ 5) (h1 : 0 ≤ c) (h2 : c ≤ 6) (hd : dg3 (I t 0) i) (hn : 0 ≤ I t 0 0) (hn2 : I t 0 0 ≤ 1000) (hb : I t 0 (19 + i) = 0 ∨ I t 0 (19 + i) = 1) : X (d + 2) m_D_crosses 0 [some (vr 39 0), some (vr t 0), some (vi (i : Int)), some (vi c), none] [] (MM sc I J) Q ↔ Q (some (vi (if ld (I 45 0 i) (lf3 (I t 0) i) c (I t 0 0) = -1 then 0 else 1))) (MM sc (up2 I t 0 (crS (I 45 0 i) (I t 0) i c)) J) := by
  obtain ⟨w, hw, e⟩ := wch_nat (k := I 45 0 i) h1 h2
  have e3 : w32 (w32 (1 + w32 (3 * (i : Int))) + (w : Int)) = ((1 + 3 * i + w : Nat) : Int) := by rw [w32_eq (x := 3 * (i : Int)) (by omega) (by omega), w32_eq (x := 1 + 3 * (i : Int)) (by omega) (by omega), w32_eq (by omega) (by omega)]; omega
  have e4 : w32 (19 + (i : Int)) = ((19 + i : Nat) : Int) := by rw [w32_eq (by omega) (by omega)]; omega
  have hc := chg_in (I 45 0 i) c (I t 0 0)
  have hL := lf3_in hd
  have hdd : 0 ≤ I t 0 (1 + 3 * i + w) ∧ I t 0 (1 + 3 * i + w) ≤ 9 := by
    have := dg_in (t := (w : Int)) hL.1 hL.2
    rw [dg_lf hd hw] at this
    exact this
  have u1 : ∀ p v, upI I t 0 p v = up2 I t 0 (upF (I t 0) p v) := fun _ _ => rfl
  rw [b_D_crosses_0, s_D_mayLand ht hi hk hk2 h1 h2 hd hn, ap_s, b_D_crosses_7]
  by_cases q : ld (I 45 0 i) (lf3 (I t 0) i) c (I t 0 0) = -1
  · rw [if_pos q, if_pos rfl, b_D_crosses_58 ht, and_iff_right (by omega), show (0 : Int).toNat = 0 from rfl, b_D_crosses_62 ht, and_iff_right (by omega), show (0 : Int).toNat = 0 from rfl, b_D_crosses_65, w32_eq (by omega) (by omega), and_iff_right (Or.inl rfl), u1]
    rw [show upF (I t 0) 0 (I t 0 0 + 1) = crS (I 45 0 i) (I t 0) i c from ?_]
    funext p
    unfold crS upF
    by_cases p0 : p = 0
    · rw [if_pos p0, if_pos p0]
    · rw [if_neg p0, if_neg p0, if_pos q]
  · rw [if_neg q, if_neg (by omega), b_D_crosses_14]
    by_cases c0 : c = 0
    · rw [if_pos (by omega), b_D_crosses_44 ht, e4, and_iff_right (by omega), Int.toNat_natCast, b_D_crosses_56 ht, and_iff_right (by omega), Int.toNat_natCast, w32_eq (x := 1 - I t 0 (19 + i)) (by omega) (by omega), u1, b_D_crosses_58 ht, and_iff_right (by omega), show (0 : Int).toNat = 0 from rfl, b_D_crosses_62 ht, and_iff_right (by omega), show (0 : Int).toNat = 0 from rfl, b_D_crosses_65, up2_same, up2_up, and_iff_right (Or.inr rfl)]
      rw [show upF (upF (I t 0) (19 + i) (1 - I t 0 (19 + i))) 0 (w32 (upF (I t 0) (19 + i) (1 - I t 0 (19 + i)) 0 + 1)) = crS (I 45 0 i) (I t 0) i c from ?_]
      rw [show upF (I t 0) (19 + i) (1 - I t 0 (19 + i)) 0 = I t 0 0 from if_neg (by omega), w32_eq (by omega) (by omega)]
      funext p
      unfold crS upF
      by_cases p0 : p = 0
      · rw [if_pos p0, if_pos p0]
      · have z : ¬ (c ≠ 0 ∧ p = 1 + 3 * i + (wch (I 45 0 i) c).toNat) := fun z => z.1 c0
        rw [if_neg p0, if_neg p0, if_neg q, if_neg z]
        by_cases p1 : p = 19 + i
        · rw [if_pos p1, if_pos p1, p1]
        · rw [if_neg p1, if_neg p1]
    · rw [if_neg (by omega), b_D_crosses_18, s_D_whichBy hi (by omega) h2, ap_s, e, b_D_crosses_30 ht, e3, and_iff_right (by omega), Int.toNat_natCast, b_D_crosses_33 ht, and_iff_right (by omega), show (0 : Int).toNat = 0 from rfl, b_D_crosses_39, s_D_changeBy hi hk hk2 (by omega) hn, ap_s, b_D_crosses_42 ht, and_iff_right (by omega), Int.toNat_natCast, w32_eq (x := I t 0 (1 + 3 * i + w) + chg (I 45 0 i) c (I t 0 0)) (by omega) (by omega), u1, b_D_crosses_44 ht, e4, and_iff_right (by omega), Int.toNat_natCast, up2_same, b_D_crosses_56 ht, and_iff_right (by omega), Int.toNat_natCast, up2_up, show upF (I t 0) (1 + 3 * i + w) (I t 0 (1 + 3 * i + w) + chg (I 45 0 i) c (I t 0 0)) (19 + i) = I t 0 (19 + i) from if_neg (by omega), w32_eq (x := 1 - I t 0 (19 + i)) (by omega) (by omega), b_D_crosses_58 ht, and_iff_right (by omega), show (0 : Int).toNat = 0 from rfl, b_D_crosses_62 ht, and_iff_right (by omega), show (0 : Int).toNat = 0 from rfl, b_D_crosses_65, up2_same, up2_up, and_iff_right (Or.inr rfl)]
      rw [show upF (upF (upF (I t 0) (1 + 3 * i + w) (I t 0 (1 + 3 * i + w) + chg (I 45 0 i) c (I t 0 0))) (19 + i) (1 - I t 0 (19 + i))) 0 (w32 (upF (upF (I t 0) (1 + 3 * i + w) (I t 0 (1 + 3 * i + w) + chg (I 45 0 i) c (I t 0 0))) (19 + i) (1 - I t 0 (19 + i)) 0 + 1)) = crS (I 45 0 i) (I t 0) i c from ?_]
      rw [show upF (upF (I t 0) (1 + 3 * i + w) (I t 0 (1 + 3 * i + w) + chg (I 45 0 i) c (I t 0 0))) (19 + i) (1 - I t 0 (19 + i)) 0 = I t 0 0 from (if_neg (by omega)).trans (if_neg (by omega)), w32_eq (by omega) (by omega)]
      funext p
      unfold crS upF
      by_cases p0 : p = 0
      · rw [if_pos p0, if_pos p0]
      · rw [if_neg p0, if_neg p0, if_neg q, e, Int.toNat_natCast]
        by_cases p1 : p = 19 + i
        · rw [if_pos p1, if_neg (show ¬ (c ≠ 0 ∧ p = 1 + 3 * i + w) by omega), if_pos p1, p1]
        · rw [if_neg p1]
          by_cases p2 : p = 1 + 3 * i + w
          · rw [if_pos p2, if_pos ⟨c0, p2⟩, p2]
          · rw [if_neg p2, if_neg (fun z => p2 z.2), if_neg p1]
theorem s_D_togetherOf {t i : Nat} (ht : ∀ f g, cellF sc t 0 f g = .inl (0, 25, f)) (hi : i < 6) (hd : dg3 (I t 0) i) : X d m_D_togetherOf 0 [some (vr t 0), some (vi (i : Int)), none] [] (MM sc I J) Q ↔ Q (some (vi (tg (lf3 (I t 0) i)))) (MM sc I J) := by
  have e3 : w32 (1 + w32 (3 * (i : Int))) = ((1 + 3 * i : Nat) : Int) := by rw [w32_eq (x := 3 * (i : Int)) (by omega) (by omega), w32_eq (by omega) (by omega)]; omega
  have e4 : w32 (((1 + 3 * i : Nat) : Int) + 1) = ((2 + 3 * i : Nat) : Int) := by rw [w32_eq (by omega) (by omega)]; omega
  have e5 : w32 (((1 + 3 * i : Nat) : Int) + 2) = ((3 + 3 * i : Nat) : Int) := by rw [w32_eq (by omega) (by omega)]; omega
  rw [tg_lf hd]
  unfold dg3 at hd
  rw [b_D_togetherOf_0 ht, e3, and_iff_right (by omega), Int.toNat_natCast, b_D_togetherOf_9 ht, e4, and_iff_right (by omega), Int.toNat_natCast, b_D_togetherOf_14 ht, e5, and_iff_right (by omega), Int.toNat_natCast, b_D_togetherOf_20, w32_eq (x := I t 0 (1 + 3 * i) + I t 0 (2 + 3 * i)) (by omega) (by omega), w32_eq (by omega) (by omega)]
theorem s_D_lifeOf {t i : Nat} (ht : ∀ f g, cellF sc t 0 f g = .inl (0, 25, f)) (hi : i < 6) (hd : dg3 (I t 0) i) : X d m_D_lifeOf 0 [some (vr t 0), some (vi (i : Int)), none] [] (MM sc I J) Q ↔ Q (some (vi (lf3 (I t 0) i))) (MM sc I J) := by
  have e3 : w32 (1 + w32 (3 * (i : Int))) = ((1 + 3 * i : Nat) : Int) := by rw [w32_eq (x := 3 * (i : Int)) (by omega) (by omega), w32_eq (by omega) (by omega)]; omega
  have e4 : w32 (((1 + 3 * i : Nat) : Int) + 1) = ((2 + 3 * i : Nat) : Int) := by rw [w32_eq (by omega) (by omega)]; omega
  have e5 : w32 (((1 + 3 * i : Nat) : Int) + 2) = ((3 + 3 * i : Nat) : Int) := by rw [w32_eq (by omega) (by omega)]; omega
  unfold lf3
  unfold dg3 at hd
  rw [b_D_lifeOf_0 ht, e3, and_iff_right (by omega), Int.toNat_natCast, b_D_lifeOf_11 ht, e4, and_iff_right (by omega), Int.toNat_natCast, b_D_lifeOf_19 ht, e5, and_iff_right (by omega), Int.toNat_natCast, b_D_lifeOf_26, w32_eq (x := 100 * I t 0 (1 + 3 * i)) (by omega) (by omega), w32_eq (x := 10 * I t 0 (2 + 3 * i)) (by omega) (by omega), w32_eq (x := 100 * I t 0 (1 + 3 * i) + 10 * I t 0 (2 + 3 * i)) (by omega) (by omega), w32_eq (by omega) (by omega)]
theorem s_D_isA {i : Nat} {o : Int} (hi : i < 6) : X d m_D_isA 0 [some (vr 39 0), some (vi (i : Int)), some (vi o)] [] (MM sc I J) Q ↔ Q (some (vi (if I 45 0 i = o ∨ (o = 1 ∧ I 45 0 i = 4) ∨ (o = 2 ∧ I 45 0 i = 5) then 1 else 0))) (MM sc I J) := by
  have i0 : (0 : Int) ≤ i := by omega
  have i6 : (i : Int) < 6 := by omega
  simp only [b_D_isA_0, b_D_isA_6, b_D_isA_10, b_D_isA_15, b_D_isA_21, b_D_isA_25, b_D_isA_30, b_D_isA_36, b_D_isA_40, b_D_isA_44, b_D_isA_45, i0, i6, i10, ap_s, ap_n, and_self, and_true, true_and, if_true, if_false, not_true_eq_false, not_false_eq_true, Int.toNat_natCast]
  (repeat' split) <;> first | (simp; done) | (exfalso; omega)
theorem s_D_weightOf {i : Nat} (hi : i < 6) (hd : dg3 (I 46 0) i) : X (d + 1) m_D_weightOf 0 [some (vr 39 0), some (vi (i : Int))] [] (MM sc I J) Q ↔ Q (some (vi (tg (lf3 (I 46 0) i) + (if I 45 0 i = 1 ∨ I 45 0 i = 4 then 1 else 0)))) (MM sc I J) := by
  have hL := lf3_in hd
  have ht : 0 ≤ tg (lf3 (I 46 0) i) ∧ tg (lf3 (I 46 0) i) ≤ 27 := by unfold tg; omega
  have e1 : w32 (tg (lf3 (I 46 0) i) + 1) = tg (lf3 (I 46 0) i) + 1 := w32_eq (by omega) (by omega)
  have e0 : w32 (tg (lf3 (I 46 0) i) + 0) = tg (lf3 (I 46 0) i) + 0 := w32_eq (by omega) (by omega)
  simp only [b_D_weightOf_0, b_D_weightOf_8, b_D_weightOf_14, b_D_weightOf_17, b_D_weightOf_21, b_D_weightOf_22, s_D_togetherOf (t := 46) (fun _ _ => rfl) hi hd, s_D_isA hi, i10, ap_s, ap_n, and_self, and_true, true_and, if_true, if_false, not_true_eq_false, not_false_eq_true, Int.toNat_natCast, e1, e0]
  by_cases h1 : I 45 0 i = 1 <;> by_cases h4 : I 45 0 i = 4 <;> simp [h1, h4]
end WH
