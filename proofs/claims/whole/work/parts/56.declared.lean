/-! DECLARED -/
section DC
variable {d : Nat} {Q : Option AV → AMem → Prop} {sc : SC} {I J : TI}
theorem s_L_isAs {L : Int} {t i n : Nat} (h1 : ∀ f g, cellF sc t i f g = .inl (0, n, f)) (hn : 3 ≤ n) (hL : 0 ≤ L) (hL2 : L ≤ 999) : X (d + 2) m_L_isAs 0 [some (vi L), some (vr t i), none] [] (MM sc I J) Q ↔ Q (some (vi (asV L (I t i 0) (I t i 1) (I t i 2)))) (MM sc I J) := by
  have a0 : ¬ (n : Int) ≤ 0 := by omega
  have a1 : ¬ (n : Int) ≤ 1 := by omega
  have a2 : ¬ (n : Int) ≤ 2 := by omega
  have b0 : (0 : Int) < n := by omega
  have b1 : (1 : Int) < n := by omega
  have b2 : (2 : Int) < n := by omega
  simp only [b_L_isAs_0, b_L_isAs_2, b_L_isAs_7 h1, b_L_isAs_10, b_L_isAs_13 h1, b_L_isAs_16, b_L_isAs_20 h1, b_L_isAs_23, b_L_isAs_28, b_L_isAs_31, b_L_isAs_33, b_L_isAs_39, s_L_thing hL hL2, a0, a1, a2, b0, b1, b2, i10, ap_s, ap_n, and_self, and_true, true_and, if_true, if_false, not_true_eq_false, not_false_eq_true, Int.toNat_natCast, ↓reduceIte, Int.reduceAdd, Int.reduceSub, Int.reduceMul, Int.reduceLE, Int.reduceLT, Int.reduceEq, Int.reduceToNat, Nat.reduceAdd, w32_1, w32_2, w32_3, w32_4, w32_5, w32_6, w32_7]
  unfold asV
  by_cases x0 : I t i 0 = -1 <;> by_cases y0 : I t i 0 = dg L 0 <;> by_cases x1 : I t i 1 = -1 <;> by_cases y1 : I t i 1 = dg L 1 <;> by_cases x2 : I t i 2 = -1 <;> by_cases y2 : I t i 2 = dg L 2 <;> simp [x0, y0, x1, y1, x2, y2]
theorem s_D_isLife {s : Nat → Int} {i r : Nat} {L a b c : Int} (hi : i < 6) (hr : r < 6) (hd : dg3 s i) (hL : lf3 s i = L) (ea : I 41 0 (40 * r) = a) (eb : I 41 0 (40 * r + 1) = b) (ec : I 41 0 (40 * r + 2) = c) (ha : -1 ≤ a) (hb : -1 ≤ b) (hc : -1 ≤ c) : X d m_D_isLife 0 [some (vr 39 0), some (vr 47 0), some (vi (i : Int)), some (vi (r : Int)), none, none, none] [] (MM sc (up2 I 47 0 s) J) Q ↔ Q (some (vi (asV L a b c))) (MM sc (up2 I 47 0 s) J) := by
  have ht : ∀ f g, cellF sc 47 0 f g = .inl (0, 25, f) := fun _ _ => rfl
  have c0 : 0 ≤ ((40 * r : Nat) : Int) ∧ ((40 * r : Nat) : Int) < 240 := by omega
  have c1 : 0 ≤ ((40 * r + 1 : Nat) : Int) ∧ ((40 * r + 1 : Nat) : Int) < 240 := by omega
  have c2 : 0 ≤ ((40 * r + 2 : Nat) : Int) ∧ ((40 * r + 2 : Nat) : Int) < 240 := by omega
  have d0 : 0 ≤ ((1 + 3 * i : Nat) : Int) ∧ ((1 + 3 * i : Nat) : Int) < ((25 : Nat) : Int) := by omega
  have d1 : 0 ≤ ((2 + 3 * i : Nat) : Int) ∧ ((2 + 3 * i : Nat) : Int) < ((25 : Nat) : Int) := by omega
  have d2 : 0 ≤ ((3 + 3 * i : Nat) : Int) ∧ ((3 + 3 * i : Nat) : Int) < ((25 : Nat) : Int) := by omega
  have w0 : w32 (w32 (40 * (r : Int)) + 0) = ((40 * r : Nat) : Int) := by rw [w32_eq (x := 40 * (r : Int)) (by omega) (by omega), w32_eq (by omega) (by omega)]; omega
  have w1 : w32 (w32 (40 * (r : Int)) + 1) = ((40 * r + 1 : Nat) : Int) := by rw [w32_eq (x := 40 * (r : Int)) (by omega) (by omega), w32_eq (by omega) (by omega)]; omega
  have w2 : w32 (w32 (40 * (r : Int)) + 2) = ((40 * r + 2 : Nat) : Int) := by rw [w32_eq (x := 40 * (r : Int)) (by omega) (by omega), w32_eq (by omega) (by omega)]; omega
  have v0 : w32 (w32 (1 + w32 (3 * (i : Int))) + 0) = ((1 + 3 * i : Nat) : Int) := by rw [w32_eq (x := 3 * (i : Int)) (by omega) (by omega), w32_eq (x := 1 + 3 * (i : Int)) (by omega) (by omega), w32_eq (by omega) (by omega)]; omega
  have v1 : w32 (w32 (1 + w32 (3 * (i : Int))) + 1) = ((2 + 3 * i : Nat) : Int) := by rw [w32_eq (x := 3 * (i : Int)) (by omega) (by omega), w32_eq (x := 1 + 3 * (i : Int)) (by omega) (by omega), w32_eq (by omega) (by omega)]; omega
  have v2 : w32 (w32 (1 + w32 (3 * (i : Int))) + 2) = ((3 + 3 * i : Nat) : Int) := by rw [w32_eq (x := 3 * (i : Int)) (by omega) (by omega), w32_eq (x := 1 + 3 * (i : Int)) (by omega) (by omega), w32_eq (by omega) (by omega)]; omega
  have g0 : s (1 + 3 * i) = dg L 0 := by rw [← hL]; exact (dg_lf hd (w := 0) (by omega)).symm
  have g1 : s (2 + 3 * i) = dg L 1 := by
    rw [← hL, show 2 + 3 * i = 1 + 3 * i + 1 by omega]
    exact (dg_lf hd (w := 1) (by omega)).symm
  have g2 : s (3 + 3 * i) = dg L 2 := by
    rw [← hL, show 3 + 3 * i = 1 + 3 * i + 2 by omega]
    exact (dg_lf hd (w := 2) (by omega)).symm
  simp only [b_D_isLife_0, b_D_isLife_6, b_D_isLife_12, b_D_isLife_24, b_D_isLife_31, b_D_isLife_36 ht, b_D_isLife_48, b_D_isLife_51, b_D_isLife_55, b_D_isLife_56, b_D_isLife_64, w0, w1, w2, v0, v1, v2, c0, c1, c2, d0, d1, d2, show up2 I 47 0 s 41 = I 41 from rfl, up2_same, ea, eb, ec, g0, g1, g2, i10, ap_s, ap_n, and_self, and_true, true_and, if_true, if_false, not_true_eq_false, not_false_eq_true, Int.toNat_natCast, ↓reduceIte, Int.reduceAdd, Int.reduceSub, Int.reduceMul, Int.reduceLE, Int.reduceLT, Int.reduceEq, Int.reduceToNat, Nat.reduceAdd, w32_1, w32_2, w32_3, w32_4, w32_5, w32_6, w32_7]
  unfold asV
  have x0 : (a < 0) = (a = -1) := propext ⟨fun z => by omega, fun z => by omega⟩
  have x1 : (b < 0) = (b = -1) := propext ⟨fun z => by omega, fun z => by omega⟩
  have x2 : (c < 0) = (c = -1) := propext ⟨fun z => by omega, fun z => by omega⟩
  simp only [x0, x1, x2]
  by_cases z0 : a = -1 <;> by_cases y0 : a = dg L 0 <;> by_cases z1 : b = -1 <;> by_cases y1 : b = dg L 1 <;> by_cases z2 : c = -1 <;> by_cases y2 : c = dg L 2 <;> simp [z0, y0, z1, y1, z2, y2]
theorem l_C_declared {i r : Nat} {x3 : Int} (hi : i < 6) (hr : r < 6) (hL : 0 ≤ I 22 0 i ∧ I 22 0 i ≤ 999) (hn : 0 ≤ I 20 0 8) : ∀ (m c : Nat), c + m = 7 → (X (d + 4) m_C_declared 45 [some (vr 0 0), some (vi (i : Int)), some (vi (r : Int)), some (vi x3), some (vi (dcF (I 21 0 i) (I 22 0 i) (I 20 0 8) (I 29 r 0) (I 29 r 1) (I 29 r 2) c)), some (vi (c : Int))] [] (MM sc I J) Q ↔ Q (some (vi (dcF (I 21 0 i) (I 22 0 i) (I 20 0 8) (I 29 r 0) (I 29 r 1) (I 29 r 2) 7))) (MM sc I J))
  | 0, c, e => by
    have e1 : c = 7 := by omega
    subst e1
    rw [b_C_declared_45, if_pos (by omega), b_C_declared_112]
  | m + 1, c, e => by
    have hlt := lt_in (k := I 21 0 i) (c := (c : Int)) (n := I 20 0 8) (by omega) (by omega) hL.1 hL.2
    have hl : 3 ≤ lenP r := by unfold lenP; split <;> omega
    rw [b_C_declared_45, if_neg (by omega), b_C_declared_52, and_iff_right (by omega), Int.toNat_natCast, b_C_declared_61, and_iff_right (by omega), Int.toNat_natCast, b_C_declared_70, s_K_lifeThen (by omega) (by omega) hL.1 hL.2 hn, ap_s, b_C_declared_82, and_iff_right (by omega), Int.toNat_natCast, b_C_declared_88, s_L_isAs (n := lenP r) (fun _ _ => rfl) hl hlt.1 hlt.2, ap_s, b_C_declared_94, b_C_declared_97, b_C_declared_106, b_C_declared_106, wsuc (by omega)]
    rw [← l_C_declared hi hr hL hn m (c + 1) (by omega)]
    rw [dcF]
    split <;> exact Iff.rfl
theorem l_D_declared {i r : Nat} {x3 a b e : Int} (hi : i < 6) (hr : r < 6) (hk : 0 ≤ I 45 0 i) (hk2 : I 45 0 i ≤ 5) (hd : dg3 (I 46 0) i) (hb : I 46 0 (19 + i) = 0 ∨ I 46 0 (19 + i) = 1) (hn : 0 ≤ I 46 0 0 ∧ I 46 0 0 ≤ 900) (ea : I 41 0 (40 * r) = a) (eb : I 41 0 (40 * r + 1) = b) (ec : I 41 0 (40 * r + 2) = e) (va : -1 ≤ a) (vb : -1 ≤ b) (vc : -1 ≤ e) (hQ : ∀ s, Q (some (vi (dcF (I 45 0 i) (lf3 (I 46 0) i) (I 46 0 0) a b e 7))) (MM sc (up2 I 47 0 s) J)) : ∀ (m c : Nat) (s : Nat → Int), c + m = 7 → X (d + 3) m_D_declared 44 [some (vr 39 0), some (vi (i : Int)), some (vi (r : Int)), some (vi x3), some (vi (dcF (I 45 0 i) (lf3 (I 46 0) i) (I 46 0 0) a b e c)), some (vi (c : Int))] [] (MM sc (up2 I 47 0 s) J) Q
  | 0, c, s, e' => by
    have e1 : c = 7 := by omega
    subst e1
    rw [b_D_declared_44, if_pos (by omega), b_D_declared_99]
    exact hQ s
  | m + 1, c, s, e' => by
    have nw := nw_ok (I := I) (s := s) hi hd
    have cr := crS_lf (k := I 45 0 i) (c := (c : Int)) hi nw.2.1 (by omega) (by omega)
    rw [b_D_declared_44, if_neg (by omega), b_D_declared_51, s_D_asItIs, ap_n, b_D_declared_55, s_D_crN hi hk hk2 (by omega) (by omega) nw.2.1 (by rw [nw.2.2.1]; exact hn.1) (by rw [nw.2.2.1]; omega) (by rw [nw.2.2.2]; exact hb), ap_s, b_D_declared_66, s_D_isLife (L := lt (I 45 0 i) (lf3 (I 46 0) i) c (I 46 0 0)) hi hr cr.2 (by rw [cr.1, nw.1, nw.2.2.1]) ea eb ec va vb vc, ap_s, b_D_declared_79, b_D_declared_82, b_D_declared_89, b_D_declared_90, b_D_declared_90, wsuc (by omega), i_or_0 (dcF_i32 _ _ _ _ _ _ _)]
    have ih := l_D_declared (x3 := x3) hi hr hk hk2 hd hb hn ea eb ec va vb vc hQ m (c + 1) (crS (I 45 0 i) (nwS I s) i c) (by omega)
    rw [dcF] at ih
    by_cases z : asV (lt (I 45 0 i) (lf3 (I 46 0) i) c (I 46 0 0)) a b e = 0
    · rw [if_pos z] at ih ⊢
      exact ih
    · rw [if_neg z] at ih ⊢
      exact ih
theorem op_declared (h : Inv I J) (i r : Int) : OpW m_C_declared m_D_declared [some (vr 0 0), some (vi i), some (vi r), none, none, none] [some (vr 39 0), some (vi i), some (vi r), none, none, none] sc I J := by
  obtain ⟨n1, n2, n3, n4, n5, n6, n7, n8, n9⟩ := inv_num h
  by_cases hb : 0 ≤ i ∧ i < I 39 0 4
  · by_cases hb2 : 0 ≤ r ∧ r ≤ 5
    · obtain ⟨i0, i4⟩ := hb
      obtain ⟨r0, r5⟩ := hb2
      obtain ⟨i, rfl⟩ := Int.eq_ofNat_of_zero_le i0
      obtain ⟨r, rfl⟩ := Int.eq_ofNat_of_zero_le r0
      obtain ⟨p1, p2, p3, p4, p5, p6, p7⟩ := inv_pas h i4
      have r6 : (r : Int) < 6 := by omega
      have hL := lf3_in p6
      rcases rowchk h (r := r) (by omega) 3 3 (-1) 9 with ⟨f, f1, f6, hC, hD⟩ | ⟨S, s1, s2, s3, s4, s5, s6, s7, hC, hD⟩
      · have f0 : ¬ (f : Int) = 0 := by omega
        refine opW_fd h f6 (fun d Q hQ => ?_) (fun d Q hQ => ?_)
        · simp only [b_C_declared_0, b_C_declared_5, b_C_declared_8, b_C_declared_12, b_C_declared_15, b_C_declared_17, b_C_declared_24, b_C_declared_32, b_C_declared_37, s_C_isP h, s_C_isRow, hC, i0, i4, r0, r5, r6, i10, ap_s, ap_n, and_self, and_true, true_and, if_true, if_false, not_true_eq_false, not_false_eq_true, Int.toNat_natCast]
          exact hQ
        · simp only [b_D_declared_0, b_D_declared_5, b_D_declared_8, b_D_declared_12, b_D_declared_15, b_D_declared_17, b_D_declared_27, b_D_declared_32, b_D_declared_37, s_D_isOne (I := fdC I f) n2 n3, s_D_isRow, hD _ _ sc (fdC I f) J rfl rfl, s_D_found f6, fC39, f0, i0, i4, r0, r5, r6, i10, ap_s, ap_n, and_self, and_true, true_and, if_true, if_false, not_true_eq_false, not_false_eq_true, Int.toNat_natCast]
          exact hQ
      · refine ⟨(dcF (I 45 0 i) (lf3 (I 46 0) i) (I 46 0 0) (I 29 r 0) (I 29 r 1) (I 29 r 2) 7), fun a b => a = I ∧ b = J, fun d Q hQ => ?_, fun a b hab d Q hQ => ?_⟩
        · have lc := l_C_declared (d := d + 16) (Q := Q) (sc := sc) (I := I) (J := J) (i := i) (r := r) (x3 := 0) p1 (by omega) (by omega) (by omega) 7 0 (by omega)
          rw [p2, p4, n4] at lc
          simp only [b_C_declared_0, b_C_declared_5, b_C_declared_8, b_C_declared_12, b_C_declared_15, b_C_declared_17, b_C_declared_24, b_C_declared_32, b_C_declared_37, b_C_declared_39, s_C_isP h, s_C_isRow, hC, i0, i4, r0, r5, r6, i10, ap_s, ap_n, and_self, and_true, true_and, if_true, if_false, not_true_eq_false, not_false_eq_true, Int.toNat_natCast]
          exact lc.mpr (hQ _ _ ⟨rfl, rfl⟩)
        · obtain ⟨e1, e2⟩ := hab
          subst e1 e2
          simp only [b_D_declared_0, b_D_declared_5, b_D_declared_8, b_D_declared_12, b_D_declared_15, b_D_declared_17, b_D_declared_27, b_D_declared_32, b_D_declared_37, b_D_declared_38, s_D_isOne n2 n3, s_D_isRow, hD _ _ sc a b rfl rfl, i0, i4, r0, r5, r6, i10, ap_s, ap_n, and_self, and_true, true_and, if_true, if_false, not_true_eq_false, not_false_eq_true, Int.toNat_natCast]
          have := l_D_declared (d := d + 17) (Q := Q) (sc := sc) (I := a) (J := b) (i := i) (r := r) (x3 := 0) p1 (by omega) p3.1 p3.2 p6 p7 (by omega) (s7 0 (by omega)).symm (s7 1 (by omega)).symm (s7 2 (by omega)).symm (s6 0 (by omega)).1 (s6 1 (by omega)).1 (s6 2 (by omega)).1 (fun s => hQ _ _ (by
            obtain ⟨h1, h2, h3, h4, h5, h6⟩ := h
            exact ⟨h1, h2, h3, h4, h5, h6⟩)) 7 0 (a 47 0) (by omega)
          rw [up2_self] at this
          exact this
    · refine opW_no h (-1) (fun d Q hQ => ?_) (fun d Q hQ => ?_)
      · simp only [b_C_declared_0, b_C_declared_5, b_C_declared_8, b_C_declared_12, b_C_declared_15, s_C_isP h, s_C_isRow, hb, hb2, i10, ap_s, ap_n, and_self, and_true, true_and, if_true, if_false, not_true_eq_false, not_false_eq_true, Int.toNat_natCast]
        exact hQ
      · simp only [b_D_declared_0, b_D_declared_5, b_D_declared_8, b_D_declared_12, b_D_declared_15, s_D_isOne n2 n3, s_D_isRow, hb, hb2, i10, ap_s, ap_n, and_self, and_true, true_and, if_true, if_false, not_true_eq_false, not_false_eq_true, Int.toNat_natCast]
        exact hQ
  · refine opW_no h (-1) (fun d Q hQ => ?_) (fun d Q hQ => ?_)
    · simp only [b_C_declared_0, b_C_declared_5, b_C_declared_8, b_C_declared_12, b_C_declared_15, s_C_isP h, s_C_isRow, hb, i10, ap_s, ap_n, and_self, and_true, true_and, if_true, if_false, not_true_eq_false, not_false_eq_true, Int.toNat_natCast]
      exact hQ
    · simp only [b_D_declared_0, b_D_declared_5, b_D_declared_8, b_D_declared_12, b_D_declared_15, s_D_isOne n2 n3, s_D_isRow, hb, i10, ap_s, ap_n, and_self, and_true, true_and, if_true, if_false, not_true_eq_false, not_false_eq_true, Int.toNat_natCast]
      exact hQ
end DC
