/-! CHANCES, the calls -/
def tlC (J : TI) (u w : Nat) : TI := upI (upI J 0 0 7 (w64 ((u : Int).tdiv ((Nat.gcd u w : Nat) : Int)))) 0 0 8 (w64 ((w : Int).tdiv ((Nat.gcd u w : Nat) : Int)))
def tlD (J : TI) (u w : Nat) : TI := upI (upI J 39 0 13 (w64 ((u : Int).tdiv ((Nat.gcd u w : Nat) : Int)))) 39 0 14 (w64 ((w : Int).tdiv ((Nat.gcd u w : Nat) : Int)))
theorem tl_g (J : TI) (x y : Int) : upI (upI (upI (upI J 0 0 7 x) 0 0 8 y) 39 0 13 x) 39 0 14 y 0 0 7 = upI (upI (upI (upI J 0 0 7 x) 0 0 8 y) 39 0 13 x) 39 0 14 y 39 0 13 ∧ upI (upI (upI (upI J 0 0 7 x) 0 0 8 y) 39 0 13 x) 39 0 14 y 0 0 8 = upI (upI (upI (upI J 0 0 7 x) 0 0 8 y) 39 0 13 x) 39 0 14 y 39 0 14 := ⟨rfl, rfl⟩
theorem tl_eq {J : TI} {u w : Nat} : tlD (tlC J u w) u w 0 0 7 = tlD (tlC J u w) u w 39 0 13 ∧ tlD (tlC J u w) u w 0 0 8 = tlD (tlC J u w) u w 39 0 14 := tl_g J _ _
theorem p12_1 (S : Nat) : 1 ≤ 12 ^ S := Nat.pow_pos (by decide)
section OE
variable {d : Nat} {Q : Option AV → AMem → Prop} {sc : SC} {I J : TI}
theorem s_C_tch {i r S u : Nat} {p z : Int} (hi : i < 6) (hl : S ≤ lenP r) (hS : S ≤ 6) (hs : I 28 r 1 = S) (hL : 0 ≤ I 22 0 i ∧ I 22 0 i ≤ 999) (hn : 0 ≤ I 20 0 8 ∧ I 20 0 8 ≤ 1000) (hf : ∀ j, j < S → 0 ≤ I 29 r j ∧ I 29 r j ≤ 6) (hp : 0 ≤ p ∧ p ≤ 12) (hu : sm (eV (I 21 0 i) (I 22 0 i) (I 20 0 8) (I 29 r) p z S) (2 ^ S) = (u : Int)) : X (d + 4) m_C_tellChances 0 [some (vr 0 0), some (vi (i : Int)), some (vr 28 r), some (vi p), some (vi z), none, none, none, none, none] [] (MM sc I J) Q ↔ Q none (MM sc I (tlC J u (12 ^ S))) := by
  have q := p12_le hS
  rw [b_C_tellChances_0]
  refine (l_C_12 (i := i) (r := r) hS hs S 0 (by omega)).trans ?_
  rw [b_C_tellChances_29]
  refine (l_C_tc (i := i) (r := r) (z := z) hi hl hS hs hL hn hf hp (2 ^ S) 0 (by omega)).trans ?_
  rw [hu, b_C_tellChances_68]
  refine (s_C_tell (u := u) (w := 12 ^ S) (p12_1 S) (by omega)).trans ?_
  rw [ap_n, b_C_tellChances_76]
  exact Iff.rfl
theorem s_D_fa {i r S u : Nat} {p z : Int} {f : Nat → Int} (hi : i < 6) (hr : r < 6) (hS : S ≤ 6) (hs : I 40 0 r = S) (hk : 0 ≤ I 45 0 i) (hk2 : I 45 0 i ≤ 5) (hd : dg3 (I 46 0) i) (hb : I 46 0 (19 + i) = 0 ∨ I 46 0 (19 + i) = 1) (hn : 0 ≤ I 46 0 0 ∧ I 46 0 0 ≤ 900) (hff : ∀ j, j < S → I 41 0 (40 * r + j) = f j) (hf : ∀ j, j < S → 0 ≤ f j ∧ f j ≤ 6) (hp : 0 ≤ p ∧ p ≤ 12) (hu : sm (eV (I 45 0 i) (lf3 (I 46 0) i) (I 46 0 0) f p z S) (2 ^ S) = (u : Int)) (hQ : ∀ s, Q (some (vi 1)) (MM sc (up2 I 47 0 s) (tlD J u (12 ^ S)))) : X (d + 3) m_D_failing 0 [some (vr 39 0), some (vi (i : Int)), some (vi (r : Int)), some (vi p), some (vi z), none, none, none, none, none, none, none, none] [] (MM sc I J) Q := by
  have rv := sm_rev (F := eV (I 45 0 i) (lf3 (I 46 0) i) (I 46 0 0) f p z S) (N := 2 ^ S) (2 ^ S) (Nat.le_refl _)
  rw [Nat.sub_self, show sm (eV (I 45 0 i) (lf3 (I 46 0) i) (I 46 0 0) f p z S) 0 = 0 from rfl, Int.add_zero, hu] at rv
  have key := l_D_fs (d := d) (Q := Q) (sc := sc) (I := I) (J := J) (z := z) hi hr hS hs hk hk2 hd hb hn hff hf hp (fun s o1 o2 => by
    rw [rv, all_12 hp hS, b_D_failing_177]
    refine (s_D_tellsPart (u := u) (w := 12 ^ S) (p12_1 S)).mpr ?_
    rw [ap_s, b_D_failing_185]
    exact hQ s) (2 ^ S) 0 (I 47 0) none none (by omega)
  rw [up2_self] at key
  rw [b_D_failing_0]
  exact key
theorem op_odds (h : Inv I J) (i r p : Int) : OpW m_C_odds m_D_odds [some (vr 0 0), some (vi i), some (vi r), some (vi p)] [some (vr 39 0), some (vi i), some (vi r), some (vi p), none] sc I J := by
  obtain ⟨n1, n2, n3, n4, n5, n6, n7, n8, n9⟩ := inv_num h
  by_cases hb : 0 ≤ i ∧ i < I 39 0 4
  · by_cases hb2 : 0 ≤ r ∧ r ≤ 5
    · by_cases hb3 : 0 ≤ p ∧ p ≤ 12
      · obtain ⟨i0, i4⟩ := hb
        obtain ⟨r0, r5⟩ := hb2
        have hp := hb3
        obtain ⟨q0, q12⟩ := hb3
        have q1 : ¬ p < 0 := by omega
        obtain ⟨i, rfl⟩ := Int.eq_ofNat_of_zero_le i0
        obtain ⟨r, rfl⟩ := Int.eq_ofNat_of_zero_le r0
        obtain ⟨p1, p2, p3, p4, p5, p6, p7⟩ := inv_pas h i4
        have r6 : (r : Int) < 6 := by omega
        have hL := lf3_in p6
        rcases rowchk h (r := r) (by omega) 1 6 0 6 with ⟨f, f1, f6, hC, hD⟩ | ⟨S, s1, s2, s3, s4, s5, s6, s7, hC, hD⟩
        · have f0 : ¬ (f : Int) = 0 := by omega
          refine opW_fd h f6 (fun d Q hQ => ?_) (fun d Q hQ => ?_)
          · simp only [b_C_odds_0, b_C_odds_8, b_C_answerChances_0, b_C_answerChances_5, b_C_answerChances_8, b_C_answerChances_12, b_C_answerChances_15, b_C_answerChances_19, b_C_answerChances_25, b_C_answerChances_27, b_C_answerChances_34, b_C_answerChances_43, b_C_answerChances_50, s_C_isP h, s_C_isRow, hC, i0, i4, r0, r5, r6, q1, q12, i10, ap_s, ap_n, and_self, and_true, true_and, if_true, if_false, not_true_eq_false, not_false_eq_true, Int.toNat_natCast]
            exact hQ
          · simp only [b_D_odds_0, b_D_odds_5, b_D_odds_8, b_D_odds_12, b_D_odds_15, b_D_odds_22, b_D_odds_25, b_D_odds_27, b_D_odds_38, b_D_odds_45, b_D_odds_51, b_D_odds_54, b_D_odds_62, s_D_isOne (I := fdC I f) n2 n3, s_D_isRow, s_D_in, hD _ _ sc (fdC I f) J rfl rfl, s_D_found f6, fC39, f0, i0, i4, r0, r5, r6, q0, q12, i10, ap_s, ap_n, and_self, and_true, true_and, if_true, if_false, not_true_eq_false, not_false_eq_true, Int.toNat_natCast]
            exact hQ
        · have S6 : S ≤ 6 := by omega
          have fr : ∀ j, j < S → 0 ≤ I 29 r j ∧ I 29 r j ≤ 6 := s6
          have ev : ∀ j, j < 2 ^ S → 0 ≤ eV (I 45 0 i) (lf3 (I 46 0) i) (I 46 0 0) (I 29 r) p 1 S j ∧ eV (I 45 0 i) (lf3 (I 46 0) i) (I 46 0 0) (I 29 r) p 1 S j ≤ 80621568 := fun j _ => eV_in hL hp S6 fr
          obtain ⟨u, hu⟩ := Int.eq_ofNat_of_zero_le (sm_in ev (2 ^ S) (Nat.le_refl _)).1
          refine ⟨1, fun a b => a = I ∧ b = tlC J u (12 ^ S), fun d Q hQ => ?_, fun a b hab d Q hQ => ?_⟩
          · have tc := fun Q => s_C_tch (d := d + 14) (Q := Q) (sc := sc) (I := I) (J := J) (i := i) (r := r) (S := S) (u := u) (p := p) (z := 1) p1 (by unfold lenP; split <;> omega) S6 s1 (by rw [p4]; exact hL) (by omega) fr hp (by rw [p2, p4, n4]; exact hu)
            simp only [b_C_odds_0, b_C_odds_8, b_C_answerChances_0, b_C_answerChances_5, b_C_answerChances_8, b_C_answerChances_12, b_C_answerChances_15, b_C_answerChances_19, b_C_answerChances_25, b_C_answerChances_27, b_C_answerChances_34, b_C_answerChances_43, b_C_answerChances_50, b_C_answerChances_53, b_C_answerChances_61, s_C_isP h, s_C_isRow, hC, i0, i4, r0, r5, r6, q1, q12, i10, ap_s, ap_n, and_self, and_true, true_and, if_true, if_false, not_true_eq_false, not_false_eq_true, Int.toNat_natCast]
            refine (tc _).mpr ?_
            rw [ap_n, b_C_answerChances_67, ap_s, b_C_odds_8]
            exact hQ _ _ ⟨rfl, rfl⟩
          · obtain ⟨e1, e2⟩ := hab
            subst e1 e2
            simp only [b_D_odds_0, b_D_odds_5, b_D_odds_8, b_D_odds_12, b_D_odds_15, b_D_odds_22, b_D_odds_25, b_D_odds_27, b_D_odds_38, b_D_odds_45, b_D_odds_51, b_D_odds_54, s_D_isOne n2 n3, s_D_isRow, s_D_in, hD _ _ sc a (tlC J u (12 ^ S)) rfl rfl, i0, i4, r0, r5, r6, q0, q12, i10, ap_s, ap_n, and_self, and_true, true_and, if_true, if_false, not_true_eq_false, not_false_eq_true, Int.toNat_natCast]
            refine s_D_fa (d := d + 16) (u := u) (f := a 29 r) p1 (by omega) S6 s2 p3.1 p3.2 p6 p7 (by omega) (fun j hj => (s7 j hj).symm) s6 hp hu (fun s => ?_)
            rw [ap_s, b_D_odds_62]
            refine hQ _ _ ?_
            obtain ⟨h1, h2, h3, h4, h5, a1, a2, a3, a4, a5⟩ := h
            exact ⟨h1, h2, h3, h4, h5, a1, a2, a3, tl_eq.1, tl_eq.2⟩
      · refine opW_no h (-1) (fun d Q hQ => ?_) (fun d Q hQ => ?_)
        · simp only [b_C_odds_0, b_C_odds_8, b_C_answerChances_0, b_C_answerChances_5, b_C_answerChances_8, b_C_answerChances_12, b_C_answerChances_15, b_C_answerChances_19, b_C_answerChances_25, s_C_isP h, s_C_isRow, hb, hb2, i10, ap_s, ap_n, and_self, and_true, true_and, if_true, if_false, not_true_eq_false, not_false_eq_true, Int.toNat_natCast]
          (repeat' split) <;> first | exact hQ | (exfalso; omega)
        · simp only [b_D_odds_0, b_D_odds_5, b_D_odds_8, b_D_odds_12, b_D_odds_15, b_D_odds_22, b_D_odds_25, s_D_isOne n2 n3, s_D_isRow, s_D_in, hb, hb2, hb3, i10, ap_s, ap_n, and_self, and_true, true_and, if_true, if_false, not_true_eq_false, not_false_eq_true, Int.toNat_natCast]
          exact hQ
    · refine opW_no h (-1) (fun d Q hQ => ?_) (fun d Q hQ => ?_)
      · simp only [b_C_odds_0, b_C_odds_8, b_C_answerChances_0, b_C_answerChances_5, b_C_answerChances_8, b_C_answerChances_12, b_C_answerChances_15, b_C_answerChances_19, b_C_answerChances_25, s_C_isP h, s_C_isRow, hb, hb2, i10, ap_s, ap_n, and_self, and_true, true_and, if_true, if_false, not_true_eq_false, not_false_eq_true, Int.toNat_natCast]
        exact hQ
      · simp only [b_D_odds_0, b_D_odds_5, b_D_odds_8, b_D_odds_12, b_D_odds_15, b_D_odds_22, b_D_odds_25, s_D_isOne n2 n3, s_D_isRow, hb, hb2, i10, ap_s, ap_n, and_self, and_true, true_and, if_true, if_false, not_true_eq_false, not_false_eq_true, Int.toNat_natCast]
        exact hQ
  · refine opW_no h (-1) (fun d Q hQ => ?_) (fun d Q hQ => ?_)
    · simp only [b_C_odds_0, b_C_odds_8, b_C_answerChances_0, b_C_answerChances_5, b_C_answerChances_8, b_C_answerChances_12, b_C_answerChances_15, b_C_answerChances_19, b_C_answerChances_25, s_C_isP h, s_C_isRow, hb, i10, ap_s, ap_n, and_self, and_true, true_and, if_true, if_false, not_true_eq_false, not_false_eq_true, Int.toNat_natCast]
      exact hQ
    · simp only [b_D_odds_0, b_D_odds_5, b_D_odds_8, b_D_odds_12, b_D_odds_15, b_D_odds_22, b_D_odds_25, s_D_isOne n2 n3, s_D_isRow, hb, i10, ap_s, ap_n, and_self, and_true, true_and, if_true, if_false, not_true_eq_false, not_false_eq_true, Int.toNat_natCast]
      exact hQ
theorem op_mid (h : Inv I J) (i r p : Int) : OpW m_C_mid m_D_mid [some (vr 0 0), some (vi i), some (vi r), some (vi p)] [some (vr 39 0), some (vi i), some (vi r), some (vi p), none] sc I J := by
  obtain ⟨n1, n2, n3, n4, n5, n6, n7, n8, n9⟩ := inv_num h
  by_cases hb : 0 ≤ i ∧ i < I 39 0 4
  · by_cases hb2 : 0 ≤ r ∧ r ≤ 5
    · by_cases hb3 : 0 ≤ p ∧ p ≤ 12
      · obtain ⟨i0, i4⟩ := hb
        obtain ⟨r0, r5⟩ := hb2
        have hp := hb3
        obtain ⟨q0, q12⟩ := hb3
        have q1 : ¬ p < 0 := by omega
        obtain ⟨i, rfl⟩ := Int.eq_ofNat_of_zero_le i0
        obtain ⟨r, rfl⟩ := Int.eq_ofNat_of_zero_le r0
        obtain ⟨p1, p2, p3, p4, p5, p6, p7⟩ := inv_pas h i4
        have r6 : (r : Int) < 6 := by omega
        have hL := lf3_in p6
        rcases rowchk h (r := r) (by omega) 1 6 0 6 with ⟨f, f1, f6, hC, hD⟩ | ⟨S, s1, s2, s3, s4, s5, s6, s7, hC, hD⟩
        · have f0 : ¬ (f : Int) = 0 := by omega
          refine opW_fd h f6 (fun d Q hQ => ?_) (fun d Q hQ => ?_)
          · simp only [b_C_mid_0, b_C_mid_8, b_C_answerChances_0, b_C_answerChances_5, b_C_answerChances_8, b_C_answerChances_12, b_C_answerChances_15, b_C_answerChances_19, b_C_answerChances_25, b_C_answerChances_27, b_C_answerChances_34, b_C_answerChances_43, b_C_answerChances_50, s_C_isP h, s_C_isRow, hC, i0, i4, r0, r5, r6, q1, q12, i10, ap_s, ap_n, and_self, and_true, true_and, if_true, if_false, not_true_eq_false, not_false_eq_true, Int.toNat_natCast]
            exact hQ
          · simp only [b_D_mid_0, b_D_mid_5, b_D_mid_8, b_D_mid_12, b_D_mid_15, b_D_mid_22, b_D_mid_25, b_D_mid_27, b_D_mid_38, b_D_mid_45, b_D_mid_51, b_D_mid_54, b_D_mid_62, s_D_isOne (I := fdC I f) n2 n3, s_D_isRow, s_D_in, hD _ _ sc (fdC I f) J rfl rfl, s_D_found f6, fC39, f0, i0, i4, r0, r5, r6, q0, q12, i10, ap_s, ap_n, and_self, and_true, true_and, if_true, if_false, not_true_eq_false, not_false_eq_true, Int.toNat_natCast]
            exact hQ
        · have S6 : S ≤ 6 := by omega
          have fr : ∀ j, j < S → 0 ≤ I 29 r j ∧ I 29 r j ≤ 6 := s6
          have ev : ∀ j, j < 2 ^ S → 0 ≤ eV (I 45 0 i) (lf3 (I 46 0) i) (I 46 0 0) (I 29 r) p 0 S j ∧ eV (I 45 0 i) (lf3 (I 46 0) i) (I 46 0 0) (I 29 r) p 0 S j ≤ 80621568 := fun j _ => eV_in hL hp S6 fr
          obtain ⟨u, hu⟩ := Int.eq_ofNat_of_zero_le (sm_in ev (2 ^ S) (Nat.le_refl _)).1
          refine ⟨1, fun a b => a = I ∧ b = tlC J u (12 ^ S), fun d Q hQ => ?_, fun a b hab d Q hQ => ?_⟩
          · have tc := fun Q => s_C_tch (d := d + 14) (Q := Q) (sc := sc) (I := I) (J := J) (i := i) (r := r) (S := S) (u := u) (p := p) (z := 0) p1 (by unfold lenP; split <;> omega) S6 s1 (by rw [p4]; exact hL) (by omega) fr hp (by rw [p2, p4, n4]; exact hu)
            simp only [b_C_mid_0, b_C_mid_8, b_C_answerChances_0, b_C_answerChances_5, b_C_answerChances_8, b_C_answerChances_12, b_C_answerChances_15, b_C_answerChances_19, b_C_answerChances_25, b_C_answerChances_27, b_C_answerChances_34, b_C_answerChances_43, b_C_answerChances_50, b_C_answerChances_53, b_C_answerChances_61, s_C_isP h, s_C_isRow, hC, i0, i4, r0, r5, r6, q1, q12, i10, ap_s, ap_n, and_self, and_true, true_and, if_true, if_false, not_true_eq_false, not_false_eq_true, Int.toNat_natCast]
            refine (tc _).mpr ?_
            rw [ap_n, b_C_answerChances_67, ap_s, b_C_mid_8]
            exact hQ _ _ ⟨rfl, rfl⟩
          · obtain ⟨e1, e2⟩ := hab
            subst e1 e2
            simp only [b_D_mid_0, b_D_mid_5, b_D_mid_8, b_D_mid_12, b_D_mid_15, b_D_mid_22, b_D_mid_25, b_D_mid_27, b_D_mid_38, b_D_mid_45, b_D_mid_51, b_D_mid_54, s_D_isOne n2 n3, s_D_isRow, s_D_in, hD _ _ sc a (tlC J u (12 ^ S)) rfl rfl, i0, i4, r0, r5, r6, q0, q12, i10, ap_s, ap_n, and_self, and_true, true_and, if_true, if_false, not_true_eq_false, not_false_eq_true, Int.toNat_natCast]
            refine s_D_fa (d := d + 16) (u := u) (f := a 29 r) p1 (by omega) S6 s2 p3.1 p3.2 p6 p7 (by omega) (fun j hj => (s7 j hj).symm) s6 hp hu (fun s => ?_)
            rw [ap_s, b_D_mid_62]
            refine hQ _ _ ?_
            obtain ⟨h1, h2, h3, h4, h5, a1, a2, a3, a4, a5⟩ := h
            exact ⟨h1, h2, h3, h4, h5, a1, a2, a3, tl_eq.1, tl_eq.2⟩
      · refine opW_no h (-1) (fun d Q hQ => ?_) (fun d Q hQ => ?_)
        · simp only [b_C_mid_0, b_C_mid_8, b_C_answerChances_0, b_C_answerChances_5, b_C_answerChances_8, b_C_answerChances_12, b_C_answerChances_15, b_C_answerChances_19, b_C_answerChances_25, s_C_isP h, s_C_isRow, hb, hb2, i10, ap_s, ap_n, and_self, and_true, true_and, if_true, if_false, not_true_eq_false, not_false_eq_true, Int.toNat_natCast]
          (repeat' split) <;> first | exact hQ | (exfalso; omega)
        · simp only [b_D_mid_0, b_D_mid_5, b_D_mid_8, b_D_mid_12, b_D_mid_15, b_D_mid_22, b_D_mid_25, s_D_isOne n2 n3, s_D_isRow, s_D_in, hb, hb2, hb3, i10, ap_s, ap_n, and_self, and_true, true_and, if_true, if_false, not_true_eq_false, not_false_eq_true, Int.toNat_natCast]
          exact hQ
    · refine opW_no h (-1) (fun d Q hQ => ?_) (fun d Q hQ => ?_)
      · simp only [b_C_mid_0, b_C_mid_8, b_C_answerChances_0, b_C_answerChances_5, b_C_answerChances_8, b_C_answerChances_12, b_C_answerChances_15, b_C_answerChances_19, b_C_answerChances_25, s_C_isP h, s_C_isRow, hb, hb2, i10, ap_s, ap_n, and_self, and_true, true_and, if_true, if_false, not_true_eq_false, not_false_eq_true, Int.toNat_natCast]
        exact hQ
      · simp only [b_D_mid_0, b_D_mid_5, b_D_mid_8, b_D_mid_12, b_D_mid_15, b_D_mid_22, b_D_mid_25, s_D_isOne n2 n3, s_D_isRow, hb, hb2, i10, ap_s, ap_n, and_self, and_true, true_and, if_true, if_false, not_true_eq_false, not_false_eq_true, Int.toNat_natCast]
        exact hQ
  · refine opW_no h (-1) (fun d Q hQ => ?_) (fun d Q hQ => ?_)
    · simp only [b_C_mid_0, b_C_mid_8, b_C_answerChances_0, b_C_answerChances_5, b_C_answerChances_8, b_C_answerChances_12, b_C_answerChances_15, b_C_answerChances_19, b_C_answerChances_25, s_C_isP h, s_C_isRow, hb, i10, ap_s, ap_n, and_self, and_true, true_and, if_true, if_false, not_true_eq_false, not_false_eq_true, Int.toNat_natCast]
      exact hQ
    · simp only [b_D_mid_0, b_D_mid_5, b_D_mid_8, b_D_mid_12, b_D_mid_15, b_D_mid_22, b_D_mid_25, s_D_isOne n2 n3, s_D_isRow, hb, i10, ap_s, ap_n, and_self, and_true, true_and, if_true, if_false, not_true_eq_false, not_false_eq_true, Int.toNat_natCast]
      exact hQ
end OE
