/-! MARK, CHANGES -/
section MK
variable {d : Nat} {Q : Option AV → AMem → Prop} {sc : SC} {I J : TI}
theorem s_F_others {i0 i n : Nat} (hi : i < 6) (hn : n ≤ 6) (hs : I 20 i0 7 = n) : X d m_F_othersOnBankOf 0 [some (vr 20 i0), some (vi (i : Int)), none, none] [] (MM sc I J) Q ↔ Q (some (vi (cB (I 23 i0) i n))) (MM sc I J) := by
  rw [b_F_othersOnBankOf_0]
  exact l_F_others hi hn hs n 0 (by omega)
theorem s_D_besides {i n : Nat} (hi : i < 6) (hn : n ≤ 6) (hs : I 39 0 4 = n) : X d m_D_besides 0 [some (vr 39 0), some (vi (i : Int)), none, none] [] (MM sc I J) Q ↔ Q (some (vi (cB (fun q => I 46 0 (19 + q)) i n))) (MM sc I J) := by
  rw [b_D_besides_0]
  exact l_D_besides hi hn hs n 0 (by omega)
theorem op_mark (h : Inv I J) (i k : Int) : OpI m_C_mark m_D_mark [some (vr 0 0), some (vi i), some (vi k), none] [some (vr 39 0), some (vi i), some (vi k)] sc I J := by
  obtain ⟨n1, n2, n3, n4, n5, n6, n7, n8, n9⟩ := inv_num h
  by_cases hb : (0 ≤ i ∧ i < I 39 0 4) ∧ 1 ≤ k ∧ k ≤ 5
  · obtain ⟨⟨i0, i4⟩, w0, w6⟩ := hb
    obtain ⟨i, rfl⟩ := Int.eq_ofNat_of_zero_le i0
    obtain ⟨p1, p2, p3, p4, p5, p6, p7⟩ := inv_pas h i4
    have hL := lf3_in p6
    have w1 : ¬ k ≤ 0 := by omega
    have i6 : (i : Int) < 6 := by omega
    by_cases ho : I 45 0 i = k ∨ (k = 1 ∧ I 45 0 i = 4) ∨ (k = 2 ∧ I 45 0 i = 5)
    · have hoC : I 45 0 i = k ∨ k = 0 ∨ (I 45 0 i = 4 ∧ k = 1) ∨ (I 45 0 i = 5 ∧ k = 2) := by omega
      have qC : ∀ (d : Nat) (Q : Option AV → AMem → Prop), X d m_K_isOf 0 [some (vi (I 45 0 i)), some (vi k)] [] (MM sc I J) Q ↔ Q (some (vi 1)) (MM sc I J) := fun d Q => by rw [s_K_isOf, if_pos hoC]
      have qD : ∀ (d : Nat) (Q : Option AV → AMem → Prop), X d m_D_isA 0 [some (vr 39 0), some (vi (i : Int)), some (vi k)] [] (MM sc I J) Q ↔ Q (some (vi 1)) (MM sc I J) := fun d Q => by rw [s_D_isA p1, if_pos ho]
      have kk : k = 1 ∨ k = 2 ∨ k = 3 ∨ k = 4 ∨ k = 5 := by omega
      obtain ⟨n, hn⟩ := Int.eq_ofNat_of_zero_le n2
      rcases kk with e | e | e | e | e
      · subst e
        have e2 : chg (I 45 0 i) 1 (I 46 0 0) = stpk (I 45 0 i) (I 46 0 0) := by
          unfold chg
          rw [if_neg (by omega), if_pos (Or.inl ⟨by decide, by omega⟩)]
        refine op_no h (stpk (I 45 0 i) (I 46 0 0)) (fun d Q hQ => ?_) (fun d Q hQ => ?_)
        · simp only [b_C_mark_0, b_C_mark_5, b_C_mark_8, b_C_mark_12, b_C_mark_17, b_C_mark_19, b_C_mark_28, b_C_mark_34, b_C_mark_37, b_C_mark_42, b_C_mark_43, b_C_mark_76, b_C_mark_87, b_C_mark_88, b_C_mark_98, b_C_mark_108, b_C_mark_111, b_C_mark_112, b_C_mark_121, b_C_mark_124, b_C_mark_125, b_C_mark_135, b_C_mark_143, s_C_isP h, qC, s_K_stepOf n5, p2, n4, i0, i4, i6, w1, w6, i10, ap_s, ap_n, and_self, and_true, true_and, if_true, if_false, not_true_eq_false, not_false_eq_true, Int.toNat_natCast, ↓reduceIte, Int.reduceAdd, Int.reduceSub, Int.reduceMul, Int.reduceLE, Int.reduceLT, Int.reduceEq, Int.reduceToNat, Nat.reduceAdd, w32_1, w32_2, w32_3, w32_4, w32_5, w32_6, w32_7]
          exact hQ
        · simp only [b_D_mark_0, b_D_mark_5, b_D_mark_8, b_D_mark_14, b_D_mark_17, b_D_mark_19, b_D_mark_25, b_D_mark_28, b_D_mark_33, b_D_mark_34, b_D_mark_64, b_D_mark_73, b_D_mark_76, b_D_mark_77, b_D_mark_82, b_D_mark_85, b_D_mark_86, b_D_mark_91, b_D_mark_92, b_D_mark_98, b_D_mark_101, b_D_mark_106, s_D_isOne n2 n3, s_D_in, qD, s_D_changeBy p1 p3.1 p3.2 (show (1 : Int) ≤ 1 by decide) n5, e2, i0, i4, i6, w0, w6, i10, ap_s, ap_n, and_self, and_true, true_and, if_true, if_false, not_true_eq_false, not_false_eq_true, Int.toNat_natCast, ↓reduceIte, Int.reduceAdd, Int.reduceSub, Int.reduceMul, Int.reduceLE, Int.reduceLT, Int.reduceEq, Int.reduceToNat, Nat.reduceAdd, w32_1, w32_2, w32_3, w32_4, w32_5, w32_6, w32_7]
          exact hQ
      · subst e
        have lnI := lnF_in (I 45 0 i) (lf3 (I 46 0) i) (I 46 0 0) 7 (by omega)
        refine op_no h (bcF (lnF (I 45 0 i) (lf3 (I 46 0) i) (I 46 0 0) 7)) (fun d Q hQ => ?_) (fun d Q hQ => ?_)
        · simp only [b_C_mark_0, b_C_mark_5, b_C_mark_8, b_C_mark_12, b_C_mark_17, b_C_mark_19, b_C_mark_28, b_C_mark_34, b_C_mark_37, b_C_mark_42, b_C_mark_43, b_C_mark_76, b_C_mark_87, b_C_mark_88, b_C_mark_98, b_C_mark_108, b_C_mark_111, b_C_mark_112, b_C_mark_121, b_C_mark_124, b_C_mark_125, b_C_mark_135, b_C_mark_143, s_C_isP h, qC, p2, p4, s_K_landings hL.1 hL.2 n5, s_JI_bitCount, n4, i0, i4, i6, w1, w6, i10, ap_s, ap_n, and_self, and_true, true_and, if_true, if_false, not_true_eq_false, not_false_eq_true, Int.toNat_natCast, ↓reduceIte, Int.reduceAdd, Int.reduceSub, Int.reduceMul, Int.reduceLE, Int.reduceLT, Int.reduceEq, Int.reduceToNat, Nat.reduceAdd, w32_1, w32_2, w32_3, w32_4, w32_5, w32_6, w32_7]
          exact hQ
        · simp only [b_D_mark_0, b_D_mark_5, b_D_mark_8, b_D_mark_14, b_D_mark_17, b_D_mark_19, b_D_mark_25, b_D_mark_28, b_D_mark_33, b_D_mark_34, b_D_mark_64, b_D_mark_73, b_D_mark_76, b_D_mark_77, b_D_mark_82, b_D_mark_85, b_D_mark_86, b_D_mark_91, b_D_mark_92, b_D_mark_98, b_D_mark_101, b_D_mark_106, s_D_isOne n2 n3, s_D_in, qD, s_D_landsBy p1 p3.1 p3.2 p6 n5, s_D_bits lnI, i0, i4, i6, w0, w6, i10, ap_s, ap_n, and_self, and_true, true_and, if_true, if_false, not_true_eq_false, not_false_eq_true, Int.toNat_natCast, ↓reduceIte, Int.reduceAdd, Int.reduceSub, Int.reduceMul, Int.reduceLE, Int.reduceLT, Int.reduceEq, Int.reduceToNat, Nat.reduceAdd, w32_1, w32_2, w32_3, w32_4, w32_5, w32_6, w32_7]
          exact hQ
      · subst e
        have d0 : dg (lf3 (I 46 0) i) 0 = I 46 0 (1 + 3 * i) := dg_lf p6 (w := 0) (by omega)
        have d1 : dg (lf3 (I 46 0) i) 1 = I 46 0 (2 + 3 * i) := by
          rw [show 2 + 3 * i = 1 + 3 * i + 1 by omega]
          exact dg_lf p6 (w := 1) (by omega)
        have d2 : dg (lf3 (I 46 0) i) 2 = I 46 0 (3 + 3 * i) := by
          rw [show 3 + 3 * i = 1 + 3 * i + 2 by omega]
          exact dg_lf p6 (w := 2) (by omega)
        refine op_no h (lst (I 46 0 (1 + 3 * i)) (I 46 0 (2 + 3 * i)) (I 46 0 (3 + 3 * i))) (fun d Q hQ => ?_) (fun d Q hQ => ?_)
        · simp only [b_C_mark_0, b_C_mark_5, b_C_mark_8, b_C_mark_12, b_C_mark_17, b_C_mark_19, b_C_mark_28, b_C_mark_34, b_C_mark_37, b_C_mark_42, b_C_mark_43, b_C_mark_76, b_C_mark_87, b_C_mark_88, b_C_mark_98, b_C_mark_108, b_C_mark_111, b_C_mark_112, b_C_mark_121, b_C_mark_124, b_C_mark_125, b_C_mark_135, b_C_mark_143, s_C_isP h, qC, p2, p4, s_L_leastThing hL.1 hL.2, d0, d1, d2, i0, i4, i6, w1, w6, i10, ap_s, ap_n, and_self, and_true, true_and, if_true, if_false, not_true_eq_false, not_false_eq_true, Int.toNat_natCast, ↓reduceIte, Int.reduceAdd, Int.reduceSub, Int.reduceMul, Int.reduceLE, Int.reduceLT, Int.reduceEq, Int.reduceToNat, Nat.reduceAdd, w32_1, w32_2, w32_3, w32_4, w32_5, w32_6, w32_7]
          exact hQ
        · simp only [b_D_mark_0, b_D_mark_5, b_D_mark_8, b_D_mark_14, b_D_mark_17, b_D_mark_19, b_D_mark_25, b_D_mark_28, b_D_mark_33, b_D_mark_34, b_D_mark_64, b_D_mark_73, b_D_mark_76, b_D_mark_77, b_D_mark_82, b_D_mark_85, b_D_mark_86, b_D_mark_91, b_D_mark_92, b_D_mark_98, b_D_mark_101, b_D_mark_106, s_D_isOne n2 n3, s_D_in, qD, s_D_leastThing p1, i0, i4, i6, w0, w6, i10, ap_s, ap_n, and_self, and_true, true_and, if_true, if_false, not_true_eq_false, not_false_eq_true, Int.toNat_natCast, ↓reduceIte, Int.reduceAdd, Int.reduceSub, Int.reduceMul, Int.reduceLE, Int.reduceLT, Int.reduceEq, Int.reduceToNat, Nat.reduceAdd, w32_1, w32_2, w32_3, w32_4, w32_5, w32_6, w32_7]
          exact hQ
      · subst e
        refine op_no h ((I 46 0 0).tmod 2) (fun d Q hQ => ?_) (fun d Q hQ => ?_)
        · simp only [b_C_mark_0, b_C_mark_5, b_C_mark_8, b_C_mark_12, b_C_mark_17, b_C_mark_19, b_C_mark_28, b_C_mark_34, b_C_mark_37, b_C_mark_42, b_C_mark_43, b_C_mark_76, b_C_mark_87, b_C_mark_88, b_C_mark_98, b_C_mark_108, b_C_mark_111, b_C_mark_112, b_C_mark_121, b_C_mark_124, b_C_mark_125, b_C_mark_135, b_C_mark_143, s_C_isP h, qC, p2, n4, i0, i4, i6, w1, w6, i10, ap_s, ap_n, and_self, and_true, true_and, if_true, if_false, not_true_eq_false, not_false_eq_true, Int.toNat_natCast, ↓reduceIte, Int.reduceAdd, Int.reduceSub, Int.reduceMul, Int.reduceLE, Int.reduceLT, Int.reduceEq, Int.reduceToNat, Nat.reduceAdd, w32_1, w32_2, w32_3, w32_4, w32_5, w32_6, w32_7]
          exact hQ
        · simp only [b_D_mark_0, b_D_mark_5, b_D_mark_8, b_D_mark_14, b_D_mark_17, b_D_mark_19, b_D_mark_25, b_D_mark_28, b_D_mark_33, b_D_mark_34, b_D_mark_64, b_D_mark_73, b_D_mark_76, b_D_mark_77, b_D_mark_82, b_D_mark_85, b_D_mark_86, b_D_mark_91, b_D_mark_92, b_D_mark_98, b_D_mark_101, b_D_mark_106, s_D_isOne n2 n3, s_D_in, qD, i0, i4, i6, w0, w6, i10, ap_s, ap_n, and_self, and_true, true_and, if_true, if_false, not_true_eq_false, not_false_eq_true, Int.toNat_natCast, ↓reduceIte, Int.reduceAdd, Int.reduceSub, Int.reduceMul, Int.reduceLE, Int.reduceLT, Int.reduceEq, Int.reduceToNat, Nat.reduceAdd, w32_1, w32_2, w32_3, w32_4, w32_5, w32_6, w32_7]
          exact hQ
      · subst e
        have ec : cB (I 23 0) i n = cB (fun q => I 46 0 (19 + q)) i n := cB_eq p5 (Nat.le_refl _) (fun q hq => (inv_pas h (show (q : Int) < I 39 0 4 by omega)).2.2.2.2.1)
        refine op_no h (cB (fun q => I 46 0 (19 + q)) i n) (fun d Q hQ => ?_) (fun d Q hQ => ?_)
        · simp only [b_C_mark_0, b_C_mark_5, b_C_mark_8, b_C_mark_12, b_C_mark_17, b_C_mark_19, b_C_mark_28, b_C_mark_34, b_C_mark_37, b_C_mark_42, b_C_mark_43, b_C_mark_76, b_C_mark_87, b_C_mark_88, b_C_mark_98, b_C_mark_108, b_C_mark_111, b_C_mark_112, b_C_mark_121, b_C_mark_124, b_C_mark_125, b_C_mark_135, b_C_mark_143, s_C_isP h, qC, p2, s_F_others (I := I) (i0 := 0) (n := n) p1 (by omega) (by omega), ec, i0, i4, i6, w1, w6, i10, ap_s, ap_n, and_self, and_true, true_and, if_true, if_false, not_true_eq_false, not_false_eq_true, Int.toNat_natCast, ↓reduceIte, Int.reduceAdd, Int.reduceSub, Int.reduceMul, Int.reduceLE, Int.reduceLT, Int.reduceEq, Int.reduceToNat, Nat.reduceAdd, w32_1, w32_2, w32_3, w32_4, w32_5, w32_6, w32_7]
          exact hQ
        · simp only [b_D_mark_0, b_D_mark_5, b_D_mark_8, b_D_mark_14, b_D_mark_17, b_D_mark_19, b_D_mark_25, b_D_mark_28, b_D_mark_33, b_D_mark_34, b_D_mark_64, b_D_mark_73, b_D_mark_76, b_D_mark_77, b_D_mark_82, b_D_mark_85, b_D_mark_86, b_D_mark_91, b_D_mark_92, b_D_mark_98, b_D_mark_101, b_D_mark_106, s_D_isOne n2 n3, s_D_in, qD, s_D_besides (I := I) (n := n) p1 (by omega) (by omega), i0, i4, i6, w0, w6, i10, ap_s, ap_n, and_self, and_true, true_and, if_true, if_false, not_true_eq_false, not_false_eq_true, Int.toNat_natCast, ↓reduceIte, Int.reduceAdd, Int.reduceSub, Int.reduceMul, Int.reduceLE, Int.reduceLT, Int.reduceEq, Int.reduceToNat, Nat.reduceAdd, w32_1, w32_2, w32_3, w32_4, w32_5, w32_6, w32_7]
          exact hQ
    · have hoC : ¬ (I 45 0 i = k ∨ k = 0 ∨ (I 45 0 i = 4 ∧ k = 1) ∨ (I 45 0 i = 5 ∧ k = 2)) := by omega
      refine op_fd h (f := 3) (by decide) (fun d Q hQ => ?_) (fun d Q hQ => ?_)
      · simp only [b_C_mark_0, b_C_mark_5, b_C_mark_8, b_C_mark_12, b_C_mark_17, b_C_mark_19, b_C_mark_28, b_C_mark_34, b_C_mark_37, b_C_mark_42, s_C_isP h, s_K_isOf, s_C_fd3, p2, hoC, i0, i4, i6, w1, w6, i10, ap_s, ap_n, and_self, and_true, true_and, if_true, if_false, not_true_eq_false, not_false_eq_true, Int.toNat_natCast]
        exact hQ
      · simp only [b_D_mark_0, b_D_mark_5, b_D_mark_8, b_D_mark_14, b_D_mark_17, b_D_mark_19, b_D_mark_25, b_D_mark_28, b_D_mark_33, s_D_isOne (I := fdC I 3) n2 n3, s_D_in, s_D_isA (I := fdC I 3) p1, s_D_fd3, show fdC I 3 45 = I 45 from rfl, fC39, ho, i0, i4, i6, w0, w6, i10, ap_s, ap_n, and_self, and_true, true_and, if_true, if_false, not_true_eq_false, not_false_eq_true, Int.toNat_natCast]
        exact hQ
  · refine op_no h (-1) (fun d Q hQ => ?_) (fun d Q hQ => ?_)
    · simp only [b_C_mark_0, b_C_mark_5, b_C_mark_8, b_C_mark_12, b_C_mark_17, s_C_isP h, i10, ap_s, ap_n, and_self, and_true, true_and, if_true, if_false, not_true_eq_false, not_false_eq_true, Int.toNat_natCast]
      (repeat' split) <;> first | exact hQ | (exfalso; simp_all; done) | (exfalso; simp_all; omega)
    · simp only [b_D_mark_0, b_D_mark_5, b_D_mark_8, b_D_mark_14, b_D_mark_17, s_D_isOne n2 n3, s_D_in, i10, ap_s, ap_n, and_self, and_true, true_and, if_true, if_false, not_true_eq_false, not_false_eq_true, Int.toNat_natCast]
      (repeat' split) <;> first | exact hQ | (exfalso; simp_all; done) | (exfalso; simp_all; omega)
theorem op_changes (h : Inv I J) (i c n : Int) : OpI m_C_changes m_D_changes [some (vr 0 0), some (vi i), some (vi c), some (vi n)] [some (vr 39 0), some (vi i), some (vi c), some (vi n)] sc I J := by
  obtain ⟨n1, n2, n3, n4, n5, n6, n7, n8, n9⟩ := inv_num h
  by_cases hb : (0 ≤ i ∧ i < I 39 0 4) ∧ (0 ≤ c ∧ c ≤ 6) ∧ 0 ≤ n ∧ n ≤ 99
  · obtain ⟨⟨i0, i4⟩, ⟨c0, c6⟩, m0, m9⟩ := hb
    obtain ⟨i, rfl⟩ := Int.eq_ofNat_of_zero_le i0
    obtain ⟨p1, p2, p3, p4, p5, p6, p7⟩ := inv_pas h i4
    have m1 : ¬ n < 0 := by omega
    have i6 : (i : Int) < 6 := by omega
    refine ⟨chg (I 45 0 i) c n, upI I 0 0 6 (wch (I 45 0 i) c), J, upI (upI I 0 0 6 (wch (I 45 0 i) c)) 39 0 12 (wch (I 45 0 i) c), J, fun d Q hQ => ?_, fun d Q hQ => ?_, ?_⟩
    · simp only [b_C_changes_0, b_C_changes_5, b_C_changes_8, b_C_changes_12, b_C_changes_15, b_C_changes_19, b_C_changes_25, b_C_changes_28, b_C_changes_38, b_C_changes_42, b_C_changes_45, b_C_changes_54, b_C_changes_59, s_C_isP h, s_C_isDeclaration, s_K_thingOf c0 c6, s_K_changeOf c0 c6 m0, p2, show ∀ v, upI I 0 0 6 v 21 = I 21 from fun _ => rfl, i0, i4, i6, c0, c6, m1, m9, i10, ap_s, ap_n, and_self, and_true, true_and, if_true, if_false, not_true_eq_false, not_false_eq_true, Int.toNat_natCast]
      exact hQ
    · by_cases z : c = 0
      · have e1 : chg (I 45 0 i) c n = 0 := by unfold chg; rw [if_pos z]
        have e2 : wch (I 45 0 i) c = 0 := by unfold wch; rw [if_pos z]
        rw [e1, e2] at hQ
        simp only [b_D_changes_0, b_D_changes_5, b_D_changes_8, b_D_changes_15, b_D_changes_18, b_D_changes_25, b_D_changes_28, b_D_changes_31, b_D_changes_35, b_D_changes_41, b_D_changes_44, b_D_changes_51, b_D_changes_58, b_D_changes_61, s_D_isOne (I := upI I 0 0 6 (wch (I 45 0 i) c)) n2 n3, s_D_in, s_D_tells, i0, show (i : Int) < upI I 0 0 6 (wch (I 45 0 i) c) 39 0 4 from i4, c0, c6, m0, m9, i10, ap_s, ap_n, and_self, and_true, true_and, if_true, if_false, not_true_eq_false, not_false_eq_true, Int.toNat_natCast]
        rw [if_pos z, e2]
        exact hQ
      · simp only [b_D_changes_0, b_D_changes_5, b_D_changes_8, b_D_changes_15, b_D_changes_18, b_D_changes_25, b_D_changes_28, b_D_changes_31, b_D_changes_35, b_D_changes_41, b_D_changes_44, b_D_changes_51, b_D_changes_58, b_D_changes_61, s_D_isOne (I := upI I 0 0 6 (wch (I 45 0 i) c)) n2 n3, s_D_in, s_D_tells, s_D_whichBy (I := upI I 0 0 6 (wch (I 45 0 i) c)) p1 (show 1 ≤ c by omega) c6, s_D_changeBy (I := upI I 0 0 6 (wch (I 45 0 i) c)) p1 p3.1 p3.2 (show 1 ≤ c by omega) m0, i0, show (i : Int) < upI I 0 0 6 (wch (I 45 0 i) c) 39 0 4 from i4, z, c0, c6, m0, m9, i10, ap_s, ap_n, and_self, and_true, true_and, if_true, if_false, not_true_eq_false, not_false_eq_true, Int.toNat_natCast]
        exact hQ
    · obtain ⟨h1, h2, h3, h4, h5, a1, a2, a3, a4, a5⟩ := h
      exact ⟨h1, h2, h3, h4, h5, a1, rfl, a3, a4, a5⟩
  · refine op_no h (-100) (fun d Q hQ => ?_) (fun d Q hQ => ?_)
    · simp only [b_C_changes_0, b_C_changes_5, b_C_changes_8, b_C_changes_12, b_C_changes_15, b_C_changes_19, b_C_changes_25, s_C_isP h, s_C_isDeclaration, i10, ap_s, ap_n, and_self, and_true, true_and, if_true, if_false, not_true_eq_false, not_false_eq_true, Int.toNat_natCast]
      (repeat' split) <;> first | exact hQ | (exfalso; simp_all; done) | (exfalso; simp_all; omega)
    · simp only [b_D_changes_0, b_D_changes_5, b_D_changes_8, b_D_changes_15, b_D_changes_18, b_D_changes_25, b_D_changes_28, s_D_isOne n2 n3, s_D_in, i10, ap_s, ap_n, and_self, and_true, true_and, if_true, if_false, not_true_eq_false, not_false_eq_true, Int.toNat_natCast]
      (repeat' split) <;> first | exact hQ | (exfalso; simp_all; done) | (exfalso; simp_all; omega)
end MK
