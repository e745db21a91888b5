/-! FERRY -/
theorem w32_1 : w32 1 = 1 := by decide
theorem w32_2 : w32 2 = 2 := by decide
theorem w32_3 : w32 3 = 3 := by decide
theorem w32_4 : w32 4 = 4 := by decide
theorem w32_5 : w32 5 = 5 := by decide
theorem w32_6 : w32 6 = 6 := by decide
theorem w32_7 : w32 7 = 7 := by decide
section FF
variable {d : Nat} {Q : Option AV → AMem → Prop} {sc : SC} {I J : TI}
theorem s_br1 : X d m_D_bring 0 [some (vr 58 0), some (vi 0), some (vr 45 0), some (vi 0), some (vi 6), none] [] (MM sc I J) Q ↔ Q none (MM sc (brI I 58 0 0 45 0 0 6) J) := s_D_bring (n0 := 6) (n2 := 6) (a := 0) (b := 0) (n := 6) (fun _ _ => rfl) (fun _ _ => rfl) (by decide) (by decide) (by decide) (by decide) (by decide)
theorem s_br2 : X d m_D_bring 0 [some (vr 59 0), some (vi 0), some (vr 46 0), some (vi 0), some (vi 25), none] [] (MM sc I J) Q ↔ Q none (MM sc (brI I 59 0 0 46 0 0 25) J) := s_D_bring (n0 := 25) (n2 := 25) (a := 0) (b := 0) (n := 25) (fun _ _ => rfl) (fun _ _ => rfl) (by decide) (by decide) (by decide) (by decide) (by decide)
def ky0 (I : TI) : TI := fr0 (fr0 (fr0 I 1) 2) 3
def kz0 (I : TI) (it : Int) : TI := upI (upI (upI (upI (brI (brI (upI I 39 0 4 it) 58 0 0 45 0 0 6) 59 0 0 46 0 0 25) 39 0 9 0) 51 0 0 0) 51 0 1 0) 51 0 2 0
theorem op_ferry (h : Inv I J) (r : Int) : OpI m_C_ferry m_D_ferry [some (vr 0 0), some (vi r), none, none, none, none] [some (vr 39 0), some (vi r), none] sc I J := by
  by_cases hb : 0 ≤ r ∧ r ≤ 3
  · obtain ⟨r0, r5⟩ := hb
    obtain ⟨r, rfl⟩ := Int.eq_ofNat_of_zero_le r0
    have r6 : (r : Int) < 4 := by omega
    obtain ⟨k1, k2, k3, k4⟩ := h.2.1 r (by omega)
    by_cases c1 : I 28 (6 + r) 1 < 0
    · have d1 : ¬ 0 ≤ I 42 0 r := by omega
      refine op_fd h (f := 1) (by decide) (fun d Q hQ => ?_) (fun d Q hQ => ?_)
      · simp only [b_C_ferry_0, b_C_ferry_4, b_C_ferry_7, b_C_ferry_9, b_C_ferry_15, b_C_ferry_18, b_C_ferry_21, b_C_ferry_26, b_C_ferry_27, b_C_ferry_33, s_C_isText, s_R_isMissing, s_C_fd1, c1, r0, r5, r6, i10, ap_s, ap_n, and_self, and_true, true_and, if_true, if_false, not_true_eq_false, not_false_eq_true, Int.toNat_natCast]
        exact hQ
      · simp only [b_D_ferry_0, b_D_ferry_4, b_D_ferry_7, b_D_ferry_9, b_D_ferry_15, b_D_ferry_18, b_D_ferry_23, b_D_ferry_24, s_D_isText, fC42, s_D_fd1, d1, r0, r5, r6, i10, ap_s, ap_n, and_self, and_true, true_and, if_true, if_false, not_true_eq_false, not_false_eq_true, Int.toNat_natCast]
        exact hQ
    · have d1 : 0 ≤ I 42 0 r := by omega
      obtain ⟨S, hS⟩ := Int.eq_ofNat_of_zero_le (show 0 ≤ I 28 (6 + r) 1 by omega)
      have hl : S ≤ lenP (6 + r) := by unfold lenP; split <;> omega
      obtain ⟨it', K', R', q1, q2, q3⟩ := rdL (f := I 29 (6 + r)) (IC := fr0 I 0) (i1 := 6 + r) (r := r) (S := S) (by omega) (by omega) (fun _ _ => rfl) hS hl S S 0 0 (I 58 0) (rz0 (I 59 0)) 25 (Nat.le_refl _) (by omega) (by omega)
      by_cases hv : pf (I 29 (6 + r)) S S 0 0 0 = -9
      · obtain ⟨K2, L2, B2, g1, g2⟩ := q3 hv (I 21 0) (I 22 0) (I 23 0) ⟨rfl, fun j hj => by omega⟩
        have e0 : bdM (fr0 I 0) ((0 : Nat) : Int) (I 21 0) (I 22 0) (I 23 0) = fr0 I 0 := by
          funext t i p
          simp only [bdM, fr0, rd_up]
          (repeat' split) <;> first | rfl | (exfalso; omega) | (simp_all; done)
        rw [e0] at g2
        refine ⟨it', ky0 (bdM (fr0 I 0) it' K2 L2 B2), J, kz0 (rdM (ky0 (bdM (fr0 I 0) it' K2 L2 B2)) it' K' R') it', J, fun d Q hQ => ?_, fun d Q hQ => ?_, ?_⟩
        · simp only [b_C_ferry_0, b_C_ferry_4, b_C_ferry_7, b_C_ferry_9, b_C_ferry_15, b_C_ferry_18, b_C_ferry_21, b_C_ferry_26, b_C_ferry_27, b_C_ferry_33, b_C_ferry_36, b_C_ferry_41, b_C_ferry_44, b_C_ferry_51, s_C_isText, s_R_isMissing, s_C_placeOfFault hl hS, hv, b_C_boardAll_0, s_F_clear, b_C_boardAll_7, c1, r0, r5, r6, i10, ap_s, ap_n, and_self, and_true, true_and, if_true, if_false, not_true_eq_false, not_false_eq_true, Int.toNat_natCast]
          refine (g2 _ _ _ _).mpr ?_
          simp only [b_C_ferry_54, b_C_ferry_65, b_C_ferry_71, b_C_ferry_75, b_C_ferry_82, b_C_ferry_88, s_F_clear, i10, ap_s, ap_n, and_self, and_true, true_and, if_true, if_false, not_true_eq_false, not_false_eq_true, Int.toNat_natCast, ↓reduceIte, Int.reduceAdd, Int.reduceSub, Int.reduceMul, Int.reduceLE, Int.reduceLT, Int.reduceEq, Int.reduceToNat, Nat.reduceAdd, w32_1, w32_2, w32_3, w32_4, w32_5, w32_6, w32_7]
          exact hQ
        · simp only [b_D_ferry_0, b_D_ferry_4, b_D_ferry_7, b_D_ferry_9, b_D_ferry_15, b_D_ferry_18, b_D_ferry_23, b_D_ferry_24, s_D_isText, show ky0 (bdM (fr0 I 0) it' K2 L2 B2) 42 = I 42 from rfl, d1, r0, r5, r6, i10, ap_s, ap_n, and_self, and_true, true_and, if_true, if_false, not_true_eq_false, not_false_eq_true, Int.toNat_natCast]
          refine (s_D_rd0 (I := ky0 (bdM (fr0 I 0) it' K2 L2 B2)) (by omega) (show I 42 0 r = S by omega)).mpr ((q2 _ _ _ _ (ky0 (bdM (fr0 I 0) it' K2 L2 B2)) (fun p hp => (k4 p (by omega)).symm)).mpr ?_)
          have hv' : pf (I 29 (6 + r)) S S ((0 : Nat) : Int) 0 0 = -9 := hv
          simp only [b_D_ferry_29, b_D_ferry_34, b_D_ferry_37, b_D_ferry_45, b_D_ferry_60, b_D_ferry_75, b_D_ferry_80, b_D_ferry_82, b_D_ferry_87, b_D_ferry_94, b_D_ferry_100, hv', s_br1, s_br2, i10, ap_s, ap_n, and_self, and_true, true_and, if_true, if_false, not_true_eq_false, not_false_eq_true, Int.toNat_natCast, ↓reduceIte, Int.reduceAdd, Int.reduceSub, Int.reduceMul, Int.reduceLE, Int.reduceLT, Int.reduceEq, Int.reduceToNat, Nat.reduceAdd, w32_1, w32_2, w32_3, w32_4, w32_5, w32_6, w32_7]
          exact hQ
        · obtain ⟨h1, h2, h3, h4, h5, h6⟩ := h
          have it6 : (it' : Int) ≤ 6 := by omega
          have v45 : ∀ i : Nat, i < 6 → kz0 (rdM (ky0 (bdM (fr0 I 0) it' K2 L2 B2)) it' K' R') it' 45 0 i = K' i := fun i hi => by
            simp [kz0, rd_up, brI, rdM, hi]
          have v46 : ∀ i : Nat, i < 25 → kz0 (rdM (ky0 (bdM (fr0 I 0) it' K2 L2 B2)) it' K' R') it' 46 0 i = R' i := fun i hi => by
            simp [kz0, rd_up, brI, rdM, hi]
          refine ⟨h1, h2, ⟨rfl, ?_, it6, fun i hi => ?_⟩, ⟨rfl, ⟨fun i hi => ?_, ?_⟩, fun i hi => ?_, ?_, Int.le_refl _, ?_, ?_, fun k hk => ?_⟩, fun k hk => Or.inl ?_, h6⟩
          · exact Int.natCast_nonneg it'
          · have hi' : i < it' := by
              have : (i : Int) < (it' : Int) := hi
              omega
            have := g1.2 i hi'
            rw [v45 i (by omega)]
            exact ⟨this.1.1, this.1.2⟩
          · have hi' : i < it' := by
              have : (i : Int) < (it' : Int) := hi
              omega
            have := g1.2 i hi'
            rw [v46 _ (by omega), v46 _ (by omega), v46 _ (by omega), v46 _ (by omega)]
            exact this.2.2.2
          · rw [v46 _ (by omega), g1.1]
            exact Int.le_refl _
          · have hi' : i < it' := by
              have : (i : Int) < (it' : Int) := hi
              omega
            have := g1.2 i hi'
            unfold lf3
            rw [v46 _ (by omega), v46 _ (by omega), v46 _ (by omega), v46 _ (by omega)]
            exact ⟨this.2.1, this.2.2.1⟩
          · rw [v46 _ (by omega), g1.1]
            rfl
          · exact (by decide : (0 : Int) ≤ 40)
          · rw [v46 _ (by omega), g1.1]
            exact Int.le_refl _
          · have : (k : Int) < 0 := hk
            omega
          · have : k = 0 ∨ k = 1 ∨ k = 2 := by omega
            rcases this with e | e | e <;> subst e <;> exact ⟨rfl, rfl⟩
      · refine ⟨-4, I, J, rdM I it' K' R', J, fun d Q hQ => ?_, fun d Q hQ => ?_, ?_⟩
        · simp only [b_C_ferry_0, b_C_ferry_4, b_C_ferry_7, b_C_ferry_9, b_C_ferry_15, b_C_ferry_18, b_C_ferry_21, b_C_ferry_26, b_C_ferry_27, b_C_ferry_33, b_C_ferry_36, b_C_ferry_41, s_C_isText, s_R_isMissing, s_C_placeOfFault hl hS, hv, c1, r0, r5, r6, i10, ap_s, ap_n, and_self, and_true, true_and, if_true, if_false, not_true_eq_false, not_false_eq_true, Int.toNat_natCast]
          exact hQ
        · simp only [b_D_ferry_0, b_D_ferry_4, b_D_ferry_7, b_D_ferry_9, b_D_ferry_15, b_D_ferry_18, b_D_ferry_23, b_D_ferry_24, s_D_isText, d1, r0, r5, r6, i10, ap_s, ap_n, and_self, and_true, true_and, if_true, if_false, not_true_eq_false, not_false_eq_true, Int.toNat_natCast]
          refine (s_D_rd0 (by omega) (by omega)).mpr ((q2 _ _ _ _ I (fun p hp => (k4 p (by omega)).symm)).mpr ?_)
          have hv' : ¬ pf (I 29 (6 + r)) S S ((0 : Nat) : Int) 0 0 = -9 := hv
          simp only [b_D_ferry_29, b_D_ferry_34, hv', i10, ap_s, ap_n, and_self, and_true, true_and, if_true, if_false, not_true_eq_false, not_false_eq_true, Int.toNat_natCast]
          exact hQ
        · obtain ⟨h1, h2, h3, h4, h5, h6⟩ := h
          exact ⟨h1, h2, h3, h4, h5, h6⟩
  · refine op_no h (-1) (fun d Q hQ => ?_) (fun d Q hQ => ?_)
    · simp only [b_C_ferry_0, b_C_ferry_4, b_C_ferry_7, s_C_isText, hb, i10, ap_s, ap_n, and_self, and_true, true_and, if_true, if_false, not_true_eq_false, not_false_eq_true, Int.toNat_natCast]
      exact hQ
    · simp only [b_D_ferry_0, b_D_ferry_4, b_D_ferry_7, s_D_isText, hb, i10, ap_s, ap_n, and_self, and_true, true_and, if_true, if_false, not_true_eq_false, not_false_eq_true, Int.toNat_natCast]
      exact hQ
end FF
