/-! KINDS, the calls -/
section KL2
variable {d : Nat} {Q : Option AV → AMem → Prop} {sc : SC} {I J : TI}
theorem kk1 {i : Nat} {x k : Int} {s : Nat → Int} : upI (up2 (upI I 45 0 i x) 47 0 s) 45 0 i k = up2 (upI I 45 0 i k) 47 0 s := by
  funext t j p
  simp only [rd_up, rd_up2]
  by_cases c : t = 45 ∧ j = 0 ∧ p = i
  · rw [if_pos c, if_neg (by omega), if_pos c]
  · rw [if_neg c, if_neg c, if_neg c]
theorem kk2 {i : Nat} {x : Int} {s : Nat → Int} : upI (up2 (upI I 45 0 i x) 47 0 s) 45 0 i (I 45 0 i) = up2 I 47 0 s := by
  funext t j p
  simp only [rd_up, rd_up2]
  by_cases c : t = 45 ∧ j = 0 ∧ p = i
  · obtain ⟨a, b, e⟩ := c
    subst a b e
    simp
  · rw [if_neg c, if_neg c]
theorem kk0 {i : Nat} : upI I 45 0 i (I 45 0 i) = I := by
  funext t j p
  simp only [rd_up]
  by_cases c : t = 45 ∧ j = 0 ∧ p = i
  · obtain ⟨a, b, e⟩ := c
    subst a b e
    simp
  · rw [if_neg c]
theorem l_D_ko {i r H : Nat} {f : Nat → Int} (hi : i < 6) (hr : r < 6) (hH : H ≤ 8) (hs : I 40 0 r = ((2 * H : Nat) : Int)) (hd : dg3 (I 46 0) i) (hb : I 46 0 (19 + i) = 0 ∨ I 46 0 (19 + i) = 1) (hn : 0 ≤ I 46 0 0 ∧ I 46 0 0 ≤ 900) (hff : ∀ j, j < 2 * H → I 41 0 (40 * r + j) = f j) (hf : ∀ q, q < 2 * H → prP f q) (hQ : ∀ s, Q (some (vi (kfF (lf3 (I 46 0) i) (I 46 0 0) f H 6))) (MM sc (up2 I 47 0 s) J)) : ∀ (m k : Nat) (x : Int) (s : Nat → Int) (o6 o7 : Option AV), k + m = 6 → X (d + 4) m_D_kindsOf 13 [some (vr 39 0), some (vi (i : Int)), some (vi (r : Int)), some (vi (I 45 0 i)), some (vi (kfF (lf3 (I 46 0) i) (I 46 0 0) f H k)), some (vi (k : Int)), o6, o7] [] (MM sc (up2 (upI I 45 0 i x) 47 0 s) J) Q
  | 0, k, x, s, o6, o7, e => by
    have e1 : k = 6 := by omega
    subst e1
    rw [b_D_kindsOf_13, if_pos (by omega), b_D_kindsOf_138, and_iff_right (by omega), Int.toNat_natCast, b_D_kindsOf_145, kk2]
    exact hQ s
  | m + 1, k, x, s, o6, o7, e => by
    have nw := nw_ok (I := upI I 45 0 i k) (s := s) hi hd
    have ft := l_D_ft (d := d + 1) (sc := sc) (J := J) (Q := Q) (I := upI I 45 0 i k) (i := i) (r := r) (H := H) (k := k) (x3 := I 45 0 i) (x4 := kfF (lf3 (I 46 0) i) (I 46 0 0) f H k) (f := f) (s := nwS (upI I 45 0 i k) s) hi hr hH hs (by rw [rd_up, if_pos ⟨rfl, rfl, rfl⟩]) (by omega) nw.2.1 (by rw [nw.2.2.2]; exact hb) (by rw [nw.2.2.1]; exact hn) hff hf H 0 (by omega)
    rw [b_D_kindsOf_13, if_neg (by omega), b_D_kindsOf_20, and_iff_right (by omega), Int.toNat_natCast, kk1, b_D_kindsOf_31, s_D_asItIs, ap_n, b_D_kindsOf_35]
    refine ft.mpr ?_
    rw [nw.1, nw.2.2.1]
    show X (d + 1 + 3) m_D_kindsOf 114 [some (vr 39 0), some (vi (i : Int)), some (vi (r : Int)), some (vi (I 45 0 i)), some (vi (kfF (lf3 (I 46 0) i) (I 46 0 0) f H k)), some (vi (k : Int)), some (vi (ftF k (lf3 (I 46 0) i) (I 46 0 0) f H)), some (vi ((2 * H : Nat) : Int))] [] (MM sc (up2 (upI I 45 0 i k) 47 0 (cS k i (fun j => f (2 * j)) (nwS (upI I 45 0 i k) s) H)) J) Q
    rw [b_D_kindsOf_114, b_D_kindsOf_121, b_D_kindsOf_128, b_D_kindsOf_129, b_D_kindsOf_129, wsuc (by omega), i_or_0 (kfF_i32 _ _ _ _ _)]
    have ih := l_D_ko hi hr hH hs hd hb hn hff hf hQ m (k + 1) k (cS k i (fun j => f (2 * j)) (nwS (upI I 45 0 i k) s) H) (some (vi (ftF k (lf3 (I 46 0) i) (I 46 0 0) f H))) (some (vi ((2 * H : Nat) : Int))) (by omega)
    rw [kfF] at ih
    by_cases z : ftF k (lf3 (I 46 0) i) (I 46 0 0) f H = 0
    · rw [if_pos z] at ih ⊢
      exact ih
    · rw [if_neg z] at ih ⊢
      exact ih
theorem s_D_kindsOf {i r H : Nat} {f s : Nat → Int} (hi : i < 6) (hr : r < 6) (hH : H ≤ 8) (hs : I 40 0 r = ((2 * H : Nat) : Int)) (hd : dg3 (I 46 0) i) (hb : I 46 0 (19 + i) = 0 ∨ I 46 0 (19 + i) = 1) (hn : 0 ≤ I 46 0 0 ∧ I 46 0 0 ≤ 900) (hff : ∀ j, j < 2 * H → I 41 0 (40 * r + j) = f j) (hf : ∀ q, q < 2 * H → prP f q) (hQ : ∀ s, Q (some (vi (kfF (lf3 (I 46 0) i) (I 46 0 0) f H 6))) (MM sc (up2 I 47 0 s) J)) : X (d + 4) m_D_kindsOf 0 [some (vr 39 0), some (vi (i : Int)), some (vi (r : Int)), none, none, none, none, none] [] (MM sc (up2 I 47 0 s) J) Q := by
  have := l_D_ko (d := d) hi hr hH hs hd hb hn hff hf hQ 6 0 (I 45 0 i) s none none (by omega)
  rw [kk0] at this
  rw [b_D_kindsOf_0, and_iff_right (by omega), Int.toNat_natCast, b_D_kindsOf_6]
  exact this
theorem op_kinds (h : Inv I J) (i r : Int) : OpW m_C_kinds m_D_kinds [some (vr 0 0), some (vi i), some (vi r), none] [some (vr 39 0), some (vi i), some (vi r), none] sc I J := by
  obtain ⟨n1, n2, n3, n4, n5, n6, n7, n8, n9⟩ := inv_num h
  by_cases hb : 0 ≤ i ∧ i < I 39 0 4
  · by_cases hb2 : 0 ≤ r ∧ r ≤ 5
    · obtain ⟨i0, i4⟩ := hb
      obtain ⟨r0, r5⟩ := hb2
      obtain ⟨i, rfl⟩ := Int.eq_ofNat_of_zero_le i0
      obtain ⟨r, rfl⟩ := Int.eq_ofNat_of_zero_le r0
      obtain ⟨p1, p2, p3, p4, p5, p6, p7⟩ := inv_pas h i4
      have r6 : (r : Int) < 6 := by omega
      have hL := lf3_in p6
      rcases pairchk h (r := r) (by omega) with ⟨f, f1, f6, hC, hD⟩ | ⟨H, s1, s2, s3, s4, s5, hC, hD⟩
      · have f0 : ¬ (f : Int) = 0 := by omega
        refine opW_fd h f6 (fun d Q hQ => ?_) (fun d Q hQ => ?_)
        · simp only [b_C_kinds_0, b_C_kinds_5, b_C_kinds_8, b_C_kinds_12, b_C_kinds_15, b_C_kinds_17, b_C_kinds_24, b_C_kinds_27, b_C_kinds_32, b_C_kinds_34, b_C_kinds_42, b_C_kinds_45, s_C_isP h, s_C_isRow, hC, i0, i4, r0, r5, r6, i10, ap_s, ap_n, and_self, and_true, true_and, if_true, if_false, not_true_eq_false, not_false_eq_true, Int.toNat_natCast]
          exact hQ
        · simp only [b_D_kinds_0, b_D_kinds_5, b_D_kinds_8, b_D_kinds_12, b_D_kinds_15, b_D_kinds_17, b_D_kinds_22, b_D_kinds_27, b_D_kinds_32, b_D_kinds_35, b_D_kinds_41, s_D_isOne (I := fdC I f) n2 n3, s_D_isRow, hD _ _ sc (fdC I f) J rfl rfl, s_D_found f6, fC39, f0, i0, i4, r0, r5, r6, i10, ap_s, ap_n, and_self, and_true, true_and, if_true, if_false, not_true_eq_false, not_false_eq_true, Int.toNat_natCast]
          exact hQ
      · have lc : ∀ (d : Nat) (Q : Option AV → AMem → Prop), X (d + 5) m_C_kindsThatFit 0 [some (vr 0 0), some (vi (i : Int)), some (vr 28 r), none, none] [] (MM sc I J) Q ↔ Q (some (vi (kfF (lf3 (I 46 0) i) (I 46 0 0) (I 29 r) H 6))) (MM sc I J) := fun d Q => by
          rw [s_C_ktf p1 s3 s1 (by omega) (by omega) s4, p4, n4]
        refine ⟨(kfF (lf3 (I 46 0) i) (I 46 0 0) (I 29 r) H 6), fun a b => a = I ∧ b = J, fun d Q hQ => ?_, fun a b hab d Q hQ => ?_⟩
        · simp only [b_C_kinds_0, b_C_kinds_5, b_C_kinds_8, b_C_kinds_12, b_C_kinds_15, b_C_kinds_17, b_C_kinds_24, b_C_kinds_27, b_C_kinds_32, b_C_kinds_34, b_C_kinds_42, b_C_kinds_45, s_C_isP h, s_C_isRow, hC, lc, i0, i4, r0, r5, r6, i10, ap_s, ap_n, and_self, and_true, true_and, if_true, if_false, not_true_eq_false, not_false_eq_true, Int.toNat_natCast]
          exact hQ _ _ ⟨rfl, rfl⟩
        · obtain ⟨e1, e2⟩ := hab
          subst e1 e2
          simp only [b_D_kinds_0, b_D_kinds_5, b_D_kinds_8, b_D_kinds_12, b_D_kinds_15, b_D_kinds_17, b_D_kinds_22, b_D_kinds_27, b_D_kinds_32, b_D_kinds_35, s_D_isOne n2 n3, s_D_isRow, hD _ _ sc a b rfl rfl, i0, i4, r0, r5, r6, i10, ap_s, ap_n, and_self, and_true, true_and, if_true, if_false, not_true_eq_false, not_false_eq_true, Int.toNat_natCast]
          have := s_D_kindsOf (d := d + 15) (sc := sc) (I := a) (J := b) (i := i) (r := r) (H := H) (f := a 29 r) (s := a 47 0) (Q := fun r' mm => X (d + 19 + 1) m_D_kinds 41 [some (vr 39 0), some (vi (i : Int)), some (vi (r : Int)), some (vi 0)] (r'.toList ++ []) mm Q) p1 (by omega) s3 s2 p6 p7 (by omega) (fun j hj => (s5 j hj).symm) s4 (fun s => by
            rw [ap_s, b_D_kinds_41]
            refine hQ _ _ ?_
            obtain ⟨h1, h2, h3, h4, h5, h6⟩ := h
            exact ⟨h1, h2, h3, h4, h5, h6⟩)
          rw [up2_self] at this
          exact this
    · refine opW_no h (-1) (fun d Q hQ => ?_) (fun d Q hQ => ?_)
      · simp only [b_C_kinds_0, b_C_kinds_5, b_C_kinds_8, b_C_kinds_12, b_C_kinds_15, s_C_isP h, s_C_isRow, hb, hb2, i10, ap_s, ap_n, and_self, and_true, true_and, if_true, if_false, not_true_eq_false, not_false_eq_true, Int.toNat_natCast]
        exact hQ
      · simp only [b_D_kinds_0, b_D_kinds_5, b_D_kinds_8, b_D_kinds_12, b_D_kinds_15, s_D_isOne n2 n3, s_D_isRow, hb, hb2, i10, ap_s, ap_n, and_self, and_true, true_and, if_true, if_false, not_true_eq_false, not_false_eq_true, Int.toNat_natCast]
        exact hQ
  · refine opW_no h (-1) (fun d Q hQ => ?_) (fun d Q hQ => ?_)
    · simp only [b_C_kinds_0, b_C_kinds_5, b_C_kinds_8, b_C_kinds_12, b_C_kinds_15, s_C_isP h, s_C_isRow, hb, i10, ap_s, ap_n, and_self, and_true, true_and, if_true, if_false, not_true_eq_false, not_false_eq_true, Int.toNat_natCast]
      exact hQ
    · simp only [b_D_kinds_0, b_D_kinds_5, b_D_kinds_8, b_D_kinds_12, b_D_kinds_15, s_D_isOne n2 n3, s_D_isRow, hb, i10, ap_s, ap_n, and_self, and_true, true_and, if_true, if_false, not_true_eq_false, not_false_eq_true, Int.toNat_natCast]
      exact hQ
end KL2
