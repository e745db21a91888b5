/-! ALIKE, the calls -/
section AN
variable {sc : SC} {I J : TI}
theorem op_alike (h : Inv I J) (i j : Int) : OpW m_C_alike m_D_alike [some (vr 0 0), some (vi i), some (vi j), none, none, none, none, none] [some (vr 39 0), some (vi i), some (vi j), none, none, none] sc I J := by
  obtain ⟨n1, n2, n3, n4, n5, n6, n7, n8, n9⟩ := inv_num h
  by_cases hb : 0 ≤ i ∧ i < I 39 0 4
  · by_cases hb2 : 0 ≤ j ∧ j < I 39 0 4
    · by_cases hij : i = j
      · refine opW_no h (-1) (fun d Q hQ => ?_) (fun d Q hQ => ?_)
        · simp only [b_C_alike_0, b_C_alike_5, b_C_alike_8, b_C_alike_13, b_C_alike_16, b_C_alike_21, s_C_isP h, hb, hb2, hij, i10, ap_s, ap_n, and_self, and_true, true_and, if_true, if_false, not_true_eq_false, not_false_eq_true, Int.toNat_natCast]
          exact hQ
        · simp only [b_D_alike_0, b_D_alike_5, b_D_alike_8, b_D_alike_13, b_D_alike_16, b_D_alike_21, s_D_isOne n2 n3, hb, hb2, hij, i10, ap_s, ap_n, and_self, and_true, true_and, if_true, if_false, not_true_eq_false, not_false_eq_true, Int.toNat_natCast]
          exact hQ
      · obtain ⟨i0, i4⟩ := hb
        obtain ⟨j0, j4⟩ := hb2
        obtain ⟨i, rfl⟩ := Int.eq_ofNat_of_zero_le i0
        obtain ⟨j, rfl⟩ := Int.eq_ofNat_of_zero_le j0
        obtain ⟨p1, p2, p3, p4, p5, p6, p7⟩ := inv_pas h i4
        obtain ⟨r1, r2, r3, r4, r5, r6, r7⟩ := inv_pas h j4
        have hL := lf3_in p6
        have hLj := lf3_in r6
        have lc : ∀ (d : Nat) (Q : Option AV → AMem → Prop), _ ↔ _ := fun d Q => l_C_al2 (d := d) (Q := Q) (sc := sc) (I := I) (J := J) p1 r1 (by omega) (by omega) (by omega) 7 0 none none (by omega)
        rw [p2, p4, r2, r4, n4] at lc
        have ijn : i ≠ j := fun z => hij (by rw [z])
        by_cases z : cf (akW (I 45 0 i) (I 45 0 j) (lf3 (I 46 0) i) (lf3 (I 46 0) j) (I 46 0 0)) 1 49 = 0
        · refine ⟨(-9), fun a b => a = I ∧ b = J, fun d Q hQ => ?_, fun a b hab d Q hQ => ?_⟩
          · simp only [b_C_alike_0, b_C_alike_5, b_C_alike_8, b_C_alike_13, b_C_alike_16, b_C_alike_21, b_C_alike_23, s_C_isP h, i0, i4, j0, j4, hij, i10, ap_s, ap_n, and_self, and_true, true_and, if_true, if_false, not_true_eq_false, not_false_eq_true, Int.toNat_natCast]
            refine (lc (d + 16) Q).mpr ?_
            rw [if_pos z]
            exact hQ _ _ ⟨rfl, rfl⟩
          · obtain ⟨e1, e2⟩ := hab
            subst e1 e2
            simp only [b_D_alike_0, b_D_alike_5, b_D_alike_8, b_D_alike_13, b_D_alike_16, b_D_alike_21, b_D_alike_23, s_D_isOne n2 n3, i0, i4, j0, j4, hij, i10, ap_s, ap_n, and_self, and_true, true_and, if_true, if_false, not_true_eq_false, not_false_eq_true, Int.toNat_natCast]
            have := l_D_al (d := d + 16) (Q := Q) (sc := sc) (I := a) (J := b) p1 r1 ijn p3 r3 p6 r6 p7 r7 (by omega) (fun _ s => hQ _ _ (by
              obtain ⟨h1, h2, h3, h4, h5, h6⟩ := h
              exact ⟨h1, h2, h3, h4, h5, h6⟩)) (fun y => absurd z y) 49 0 (a 47 0) (by omega)
            rw [up2_self, Int.sub_self] at this
            exact this
        · generalize hf : en (fi (akW (I 45 0 i) (I 45 0 j) (lf3 (I 46 0) i) (lf3 (I 46 0) j) (I 46 0 0)) 1 49) = f at *
          refine ⟨(cf (akW (I 45 0 i) (I 45 0 j) (lf3 (I 46 0) i) (lf3 (I 46 0) j) (I 46 0 0)) 1 49), fun a b => a = upI I 0 0 6 f ∧ b = J, fun d Q hQ => ?_, fun a b hab d Q hQ => ?_⟩
          · simp only [b_C_alike_0, b_C_alike_5, b_C_alike_8, b_C_alike_13, b_C_alike_16, b_C_alike_21, b_C_alike_23, s_C_isP h, i0, i4, j0, j4, hij, i10, ap_s, ap_n, and_self, and_true, true_and, if_true, if_false, not_true_eq_false, not_false_eq_true, Int.toNat_natCast]
            refine (lc (d + 16) Q).mpr ?_
            rw [if_neg z]
            exact hQ _ _ ⟨rfl, rfl⟩
          · obtain ⟨e1, e2⟩ := hab
            subst e1 e2
            simp only [b_D_alike_0, b_D_alike_5, b_D_alike_8, b_D_alike_13, b_D_alike_16, b_D_alike_21, b_D_alike_23, s_D_isOne (I := upI I 0 0 6 f) n2 n3, show upI I 0 0 6 f 39 = I 39 from rfl, i0, i4, j0, j4, hij, i10, ap_s, ap_n, and_self, and_true, true_and, if_true, if_false, not_true_eq_false, not_false_eq_true, Int.toNat_natCast]
            have := l_D_al (d := d + 16) (Q := Q) (sc := sc) (I := upI I 0 0 6 f) (J := b) p1 r1 ijn p3 r3 p6 r6 p7 r7 ⟨n5, show I 46 0 0 ≤ 900 by omega⟩ (fun y => absurd y z) (fun _ s => by
              show Q (some (vi (cf (akW (I 45 0 i) (I 45 0 j) (lf3 (I 46 0) i) (lf3 (I 46 0) j) (I 46 0 0)) 1 49))) (MM sc (upI (up2 (upI I 0 0 6 f) 47 0 s) 39 0 12 (en (fi (akW (I 45 0 i) (I 45 0 j) (lf3 (I 46 0) i) (lf3 (I 46 0) j) (I 46 0 0)) 1 49))) b)
              rw [hf]
              refine hQ _ _ ?_
              obtain ⟨h1, h2, h3, h4, h5, a1, a2, a3, a4, a5⟩ := h
              exact ⟨h1, h2, h3, h4, h5, a1, rfl, a3, a4, a5⟩) 49 0 (upI I 0 0 6 f 47 0) (by omega)
            rw [up2_self, Int.sub_self] at this
            exact this
    · refine opW_no h (-1) (fun d Q hQ => ?_) (fun d Q hQ => ?_)
      · simp only [b_C_alike_0, b_C_alike_5, b_C_alike_8, b_C_alike_13, b_C_alike_16, b_C_alike_21, s_C_isP h, hb, hb2, i10, ap_s, ap_n, and_self, and_true, true_and, if_true, if_false, not_true_eq_false, not_false_eq_true, Int.toNat_natCast]
        exact hQ
      · simp only [b_D_alike_0, b_D_alike_5, b_D_alike_8, b_D_alike_13, b_D_alike_16, b_D_alike_21, s_D_isOne n2 n3, hb, hb2, i10, ap_s, ap_n, and_self, and_true, true_and, if_true, if_false, not_true_eq_false, not_false_eq_true, Int.toNat_natCast]
        exact hQ
  · refine opW_no h (-1) (fun d Q hQ => ?_) (fun d Q hQ => ?_)
    · simp only [b_C_alike_0, b_C_alike_5, b_C_alike_8, b_C_alike_13, b_C_alike_16, b_C_alike_21, s_C_isP h, hb, i10, ap_s, ap_n, and_self, and_true, true_and, if_true, if_false, not_true_eq_false, not_false_eq_true, Int.toNat_natCast]
      exact hQ
    · simp only [b_D_alike_0, b_D_alike_5, b_D_alike_8, b_D_alike_13, b_D_alike_16, b_D_alike_21, s_D_isOne n2 n3, hb, i10, ap_s, ap_n, and_self, and_true, true_and, if_true, if_false, not_true_eq_false, not_false_eq_true, Int.toNat_natCast]
      exact hQ
end AN
