/-! CROSS, SET -/
section DO
variable {d : Nat} {Q : Option AV → AMem → Prop} {sc : SC} {I J : TI}
theorem okS_cr (h : Inv I J) {i : Nat} {c : Int} (hi : (i : Int) < I 39 0 4) (h1 : 0 ≤ c) (h2 : c ≤ 6) : okS (I 39 0 4) (crS (I 45 0 i) (I 46 0) i c) ∧ (∀ j : Nat, (j : Int) < I 39 0 4 → j ≠ i → lf3 (crS (I 45 0 i) (I 46 0) i c) j = lf3 (I 46 0) j ∧ crS (I 45 0 i) (I 46 0) i c (19 + j) = I 46 0 (19 + j)) := by
  have hF := h.2.2.2.1.2.1
  obtain ⟨n1, n2, n3, n4, n5, n6, n7, n8, n9⟩ := inv_num h
  obtain ⟨p1, p2, p3, p4, p5, p6, p7⟩ := inv_pas h hi
  have cl := (crS_lf (k := I 45 0 i) p1 p6 h1 h2).2
  have cb := crS_bank (k := I 45 0 i) (s := I 46 0) p1 h1 h2
  have cn : ∀ j : Nat, (j : Int) < I 39 0 4 → j ≠ i → crS (I 45 0 i) (I 46 0) i c (1 + 3 * j) = I 46 0 (1 + 3 * j) ∧ crS (I 45 0 i) (I 46 0) i c (2 + 3 * j) = I 46 0 (2 + 3 * j) ∧ crS (I 45 0 i) (I 46 0) i c (3 + 3 * j) = I 46 0 (3 + 3 * j) ∧ crS (I 45 0 i) (I 46 0) i c (19 + j) = I 46 0 (19 + j) := fun j hj hji => ⟨crS_ne h1 h2 (by omega) (by omega) (by omega) (by omega) (by omega), crS_ne h1 h2 (by omega) (by omega) (by omega) (by omega) (by omega), crS_ne h1 h2 (by omega) (by omega) (by omega) (by omega) (by omega), crS_ne h1 h2 (by omega) (by omega) (by omega) (by omega) (by omega)⟩
  refine ⟨⟨fun j hj => ?_, ?_⟩, fun j hj hji => ?_⟩
  · by_cases e : j = i
    · subst e
      refine ⟨cl.1, cl.2.1, cl.2.2, ?_⟩
      rw [cb]
      split <;> omega
    · obtain ⟨a, b, cc, dd⟩ := cn j hj e
      rw [a, b, cc, dd]
      exact hF.1 j hj
  · rw [crS_0]; omega
  · obtain ⟨a, b, cc, dd⟩ := cn j hj hji
    unfold lf3
    rw [a, b, cc, dd]
    exact ⟨rfl, rfl⟩
theorem op_cross (h : Inv I J) (i c : Int) : OpI m_C_cross m_D_cross [some (vr 0 0), some (vi i), some (vi c)] [some (vr 39 0), some (vi i), some (vi c)] sc I J := by
  obtain ⟨n1, n2, n3, n4, n5, n6, n7, n8, n9⟩ := inv_num h
  by_cases hb : (0 ≤ i ∧ i < I 39 0 4) ∧ 0 ≤ c ∧ c ≤ 6
  · obtain ⟨⟨i0, i4⟩, c0, c6⟩ := hb
    obtain ⟨i, rfl⟩ := Int.eq_ofNat_of_zero_le i0
    obtain ⟨p1, p2, p3, p4, p5, p6, p7⟩ := inv_pas h i4
    obtain ⟨D, hD⟩ := Int.eq_ofNat_of_zero_le n8
    have hD2 : I 20 0 9 = D := by omega
    have hL := lf3_in p6
    by_cases c40 : D = 40
    · have r1 : ¬ (1 : Int) ≤ 40 - (D : Int) := by omega
      have r2 : I 39 0 9 = 40 := by omega
      refine op_no h (-2) (fun d Q hQ => ?_) (fun d Q hQ => ?_)
      · simp only [b_C_cross_0, b_C_cross_5, b_C_cross_8, b_C_cross_12, b_C_cross_15, b_C_cross_17, b_C_cross_25, b_C_cross_28, b_C_cross_31, b_C_cross_40, b_C_cross_43, b_C_cross_47, b_C_cross_48, s_C_isP h, s_C_isDeclaration, s_F_hasRoomFor hD2 (show D ≤ 40 by omega), i0, i4, c0, c6, r1, i10, ap_s, ap_n, and_self, and_true, true_and, if_true, if_false, not_true_eq_false, not_false_eq_true, Int.toNat_natCast]
        exact hQ
      · simp only [b_D_cross_0, b_D_cross_5, b_D_cross_8, b_D_cross_15, b_D_cross_18, b_D_cross_20, b_D_cross_29, b_D_cross_32, b_D_cross_36, b_D_cross_46, b_D_cross_49, b_D_cross_53, b_D_cross_54, s_D_isOne n2 n3, s_D_in, i0, i4, c0, c6, r2, i10, ap_s, ap_n, and_self, and_true, true_and, if_true, if_false, not_true_eq_false, not_false_eq_true, Int.toNat_natCast]
        exact hQ
    · have r1 : (1 : Int) ≤ 40 - (D : Int) := by omega
      have r2 : ¬ I 39 0 9 = 40 := by omega
      have D40 : D < 40 := by omega
      obtain ⟨ok1, ok2⟩ := okS_cr h i4 c0 c6
      have cl := (crS_lf (k := I 45 0 i) p1 p6 c0 c6).1
      have cb := crS_bank (k := I 45 0 i) (s := I 46 0) p1 c0 c6
      have ql : ld (I 21 0 i) (I 22 0 i) c (I 20 0 8) = ld (I 45 0 i) (lf3 (I 46 0) i) c (I 46 0 0) := by rw [p2, p4, n4]
      by_cases q : ld (I 45 0 i) (lf3 (I 46 0) i) c (I 46 0 0) = -1
      · have q' : ld (I 21 0 i) (I 22 0 i) c (I 20 0 8) = -1 := by rw [ql]; exact q
        refine ⟨0, upI (nd I i D) 20 0 8 (I 20 0 8 + 1), J, up2 (nt (upI (nd I i D) 20 0 8 (I 20 0 8 + 1)) D) 46 0 (crS (I 45 0 i) (I 46 0) i c), J, fun d Q hQ => ?_, fun d Q hQ => ?_, ?_⟩
        · simp only [b_C_cross_0, b_C_cross_5, b_C_cross_8, b_C_cross_12, b_C_cross_15, b_C_cross_17, b_C_cross_25, b_C_cross_28, b_C_cross_31, b_C_cross_40, b_C_cross_43, b_C_cross_47, b_C_cross_48, s_C_isP h, s_C_isDeclaration, s_F_hasRoomFor hD2 (show D ≤ 40 by omega), s_F_takeOver0 (I := I) (D := D) p1 hD2 D40 c0 c6 (show 0 ≤ I 22 0 i by omega) (show I 22 0 i ≤ 999 by omega) (show 0 ≤ I 20 0 8 by omega) (show I 20 0 8 ≤ 1000 by omega) q', i0, i4, c0, c6, r1, i10, ap_s, ap_n, and_self, and_true, true_and, if_true, if_false, not_true_eq_false, not_false_eq_true, Int.toNat_natCast]
          exact hQ
        · simp only [b_D_cross_0, b_D_cross_5, b_D_cross_8, b_D_cross_15, b_D_cross_18, b_D_cross_20, b_D_cross_29, b_D_cross_32, b_D_cross_36, b_D_cross_46, b_D_cross_49, b_D_cross_53, b_D_cross_54, s_D_isOne (I := upI (nd I i D) 20 0 8 (I 20 0 8 + 1)) n2 n3, s_D_in, show upI (nd I i D) 20 0 8 (I 20 0 8 + 1) 39 = I 39 from rfl, s_D_notes (I := upI (nd I i D) 20 0 8 (I 20 0 8 + 1)) (D := D) hD D40, s_D_crosses (I := nt (upI (nd I i D) 20 0 8 (I 20 0 8 + 1)) D) (t := 46) (i := i) (fun _ _ => rfl) p1 p3.1 p3.2 c0 c6 p6 n5 (show I 46 0 0 ≤ 1000 by omega) p7, show nt (upI (nd I i D) 20 0 8 (I 20 0 8 + 1)) D 45 = I 45 from rfl, show nt (upI (nd I i D) 20 0 8 (I 20 0 8 + 1)) D 46 = I 46 from rfl, q, i0, i4, c0, c6, r2, i10, ap_s, ap_n, and_self, and_true, true_and, if_true, if_false, not_true_eq_false, not_false_eq_true, Int.toNat_natCast]
          exact hQ
        · refine inv_deed h i4 hD D40 (s' := crS (I 45 0 i) (I 46 0) i c) (lf' := I 22 0) (bk' := I 22 0) (cr' := 0) ok1 (by rw [crS_0]; omega) ok2 (fun p => ?_) (fun p => ?_) ?_ rfl rfl (fun p => ?_) (fun p => ?_) (fun p => ?_) (fun p => ?_) (fun p _ => rfl) (fun p => ?_) (fun t i' p a1 a2 a3 a4 a5 => ?_)
          · rw [cl]
            unfold lt
            rw [if_pos q, ← p4]
            by_cases e : p = i
            · rw [if_pos e, e]; rfl
            · rw [if_neg e]; rfl
          · rw [cb, if_pos q, ← p5]
            by_cases e : p = i
            · rw [if_pos e, e]; rfl
            · rw [if_neg e]; rfl
          · rw [crS_0, ← n4]; rfl
          · simp [rd_up2, nt, brI, nd, rd_up]
          · simp [rd_up2, nt, brI, nd, rd_up]
          · simp [rd_up2, nt, brI, nd, rd_up]
          · simp [rd_up2, nt, brI, nd, rd_up]
          · simp [rd_up2, nt, brI, nd, rd_up]
          · simp only [rd_up2, nt, brI, nd, rd_up]
            repeat rw [if_neg (by omega)]
      · have q' : ¬ ld (I 21 0 i) (I 22 0 i) c (I 20 0 8) = -1 := by rw [ql]; exact q
        refine ⟨1, upI (upI (upI (nd I i D) 20 0 8 (I 20 0 8 + 1)) 22 0 i (ld (I 21 0 i) (I 22 0 i) c (I 20 0 8))) 23 0 i (1 - I 23 0 i), J, up2 (nt (upI (upI (upI (nd I i D) 20 0 8 (I 20 0 8 + 1)) 22 0 i (ld (I 21 0 i) (I 22 0 i) c (I 20 0 8))) 23 0 i (1 - I 23 0 i)) D) 46 0 (crS (I 45 0 i) (I 46 0) i c), J, fun d Q hQ => ?_, fun d Q hQ => ?_, ?_⟩
        · simp only [b_C_cross_0, b_C_cross_5, b_C_cross_8, b_C_cross_12, b_C_cross_15, b_C_cross_17, b_C_cross_25, b_C_cross_28, b_C_cross_31, b_C_cross_40, b_C_cross_43, b_C_cross_47, b_C_cross_48, s_C_isP h, s_C_isDeclaration, s_F_hasRoomFor hD2 (show D ≤ 40 by omega), s_F_takeOver1 (I := I) (D := D) p1 hD2 D40 c0 c6 (show 0 ≤ I 22 0 i by omega) (show I 22 0 i ≤ 999 by omega) (show 0 ≤ I 20 0 8 by omega) (show I 20 0 8 ≤ 1000 by omega) (show I 23 0 i = 0 ∨ I 23 0 i = 1 by omega) q', i0, i4, c0, c6, r1, i10, ap_s, ap_n, and_self, and_true, true_and, if_true, if_false, not_true_eq_false, not_false_eq_true, Int.toNat_natCast]
          exact hQ
        · generalize hv : ld (I 21 0 i) (I 22 0 i) c (I 20 0 8) = v at hQ ⊢
          simp only [b_D_cross_0, b_D_cross_5, b_D_cross_8, b_D_cross_15, b_D_cross_18, b_D_cross_20, b_D_cross_29, b_D_cross_32, b_D_cross_36, b_D_cross_46, b_D_cross_49, b_D_cross_53, b_D_cross_54, s_D_isOne (I := upI (upI (upI (nd I i D) 20 0 8 (I 20 0 8 + 1)) 22 0 i v) 23 0 i (1 - I 23 0 i)) n2 n3, s_D_in, show upI (upI (upI (nd I i D) 20 0 8 (I 20 0 8 + 1)) 22 0 i v) 23 0 i (1 - I 23 0 i) 39 = I 39 from rfl, s_D_notes (I := upI (upI (upI (nd I i D) 20 0 8 (I 20 0 8 + 1)) 22 0 i v) 23 0 i (1 - I 23 0 i)) (D := D) hD D40, s_D_crosses (I := nt (upI (upI (upI (nd I i D) 20 0 8 (I 20 0 8 + 1)) 22 0 i v) 23 0 i (1 - I 23 0 i)) D) (t := 46) (i := i) (fun _ _ => rfl) p1 p3.1 p3.2 c0 c6 p6 n5 (show I 46 0 0 ≤ 1000 by omega) p7, show nt (upI (upI (upI (nd I i D) 20 0 8 (I 20 0 8 + 1)) 22 0 i v) 23 0 i (1 - I 23 0 i)) D 45 = I 45 from rfl, show nt (upI (upI (upI (nd I i D) 20 0 8 (I 20 0 8 + 1)) 22 0 i v) 23 0 i (1 - I 23 0 i)) D 46 = I 46 from rfl, q, i0, i4, c0, c6, r2, i10, ap_s, ap_n, and_self, and_true, true_and, if_true, if_false, not_true_eq_false, not_false_eq_true, Int.toNat_natCast]
          exact hQ
        · refine inv_deed h i4 hD D40 (s' := crS (I 45 0 i) (I 46 0) i c) (lf' := I 22 0) (bk' := I 22 0) (cr' := 0) ok1 (by rw [crS_0]; omega) ok2 (fun p => ?_) (fun p => ?_) ?_ rfl rfl (fun p => ?_) (fun p => ?_) (fun p => ?_) (fun p => ?_) (fun p _ => rfl) (fun p => ?_) (fun t i' p a1 a2 a3 a4 a5 => ?_)
          · rw [cl]
            unfold lt
            rw [if_neg q, ← ql]
            simp [rd_up2, nt, brI, nd, rd_up]
          · rw [cb, if_neg q, ← p5]
            simp [rd_up2, nt, brI, nd, rd_up]
          · rw [crS_0, ← n4]; rfl
          · simp [rd_up2, nt, brI, nd, rd_up]
          · simp [rd_up2, nt, brI, nd, rd_up]
          · simp [rd_up2, nt, brI, nd, rd_up]
          · simp [rd_up2, nt, brI, nd, rd_up]
          · simp [rd_up2, nt, brI, nd, rd_up]
          · simp only [rd_up2, nt, brI, nd, rd_up]
            repeat rw [if_neg (by omega)]
  · refine op_no h (-1) (fun d Q hQ => ?_) (fun d Q hQ => ?_)
    · simp only [b_C_cross_0, b_C_cross_5, b_C_cross_8, b_C_cross_12, b_C_cross_15, s_C_isP h, s_C_isDeclaration, i10, ap_s, ap_n, and_self, and_true, true_and, if_true, if_false, not_true_eq_false, not_false_eq_true, Int.toNat_natCast]
      (repeat' split) <;> first | exact hQ | (exfalso; simp_all; done) | (exfalso; simp_all; omega)
    · simp only [b_D_cross_0, b_D_cross_5, b_D_cross_8, b_D_cross_15, b_D_cross_18, s_D_isOne n2 n3, s_D_in, i10, ap_s, ap_n, and_self, and_true, true_and, if_true, if_false, not_true_eq_false, not_false_eq_true, Int.toNat_natCast]
      (repeat' split) <;> first | exact hQ | (exfalso; simp_all; done) | (exfalso; simp_all; omega)
end DO
