/-! SET, UNDO -/
theorem set_lf {s : Nat → Int} {i w : Nat} {v : Int} (hi : i < 6) (hd : dg3 s i) (hw : w < 3) (hv : 0 ≤ v ∧ v ≤ 9) : lf3 (upF s (1 + 3 * i + w) v) i = lf3 s i + (v - dg (lf3 s i) w) * wth w ∧ dg3 (upF s (1 + 3 * i + w) v) i := by
  rw [dg_lf hd hw]
  unfold dg3 at hd
  have : w = 0 ∨ w = 1 ∨ w = 2 := by omega
  unfold lf3 dg3 upF
  rcases this with e | e | e <;> subst e
  · rw [if_pos (by omega), if_neg (by omega), if_neg (by omega), show wth ((0 : Nat) : Int) = 100 from rfl, show 1 + 3 * i + 0 = 1 + 3 * i from rfl]
    omega
  · rw [if_neg (by omega), if_pos (by omega), if_neg (by omega), show wth ((1 : Nat) : Int) = 10 from rfl, show 1 + 3 * i + 1 = 2 + 3 * i by omega]
    omega
  · rw [if_neg (by omega), if_neg (by omega), if_pos (by omega), show wth ((2 : Nat) : Int) = 1 from rfl, show 1 + 3 * i + 2 = 3 + 3 * i by omega]
    omega
section SU
variable {d : Nat} {Q : Option AV → AMem → Prop} {sc : SC} {I J : TI}
theorem okS_set (h : Inv I J) {i w : Nat} {v : Int} (hi : (i : Int) < I 39 0 4) (hw : w < 3) (hv : 0 ≤ v ∧ v ≤ 9) : okS (I 39 0 4) (upF (I 46 0) (1 + 3 * i + w) v) ∧ (∀ j : Nat, (j : Int) < I 39 0 4 → j ≠ i → lf3 (upF (I 46 0) (1 + 3 * i + w) v) j = lf3 (I 46 0) j ∧ upF (I 46 0) (1 + 3 * i + w) v (19 + j) = I 46 0 (19 + j)) ∧ upF (I 46 0) (1 + 3 * i + w) v 0 = I 46 0 0 ∧ upF (I 46 0) (1 + 3 * i + w) v (19 + i) = I 46 0 (19 + i) := by
  have hF := h.2.2.2.1.2.1
  obtain ⟨n1, n2, n3, n4, n5, n6, n7, n8, n9⟩ := inv_num h
  obtain ⟨p1, p2, p3, p4, p5, p6, p7⟩ := inv_pas h hi
  have cl := (set_lf (v := v) p1 p6 hw hv).2
  have ne : ∀ p, p ≠ 1 + 3 * i + w → upF (I 46 0) (1 + 3 * i + w) v p = I 46 0 p := fun p hp => if_neg hp
  refine ⟨⟨fun j hj => ?_, ?_⟩, fun j hj hji => ?_, ?_, ?_⟩
  · by_cases e : j = i
    · subst e
      refine ⟨cl.1, cl.2.1, cl.2.2, ?_⟩
      rw [ne _ (by omega)]
      exact p7
    · rw [ne _ (by omega), ne _ (by omega), ne _ (by omega), ne _ (by omega)]
      exact hF.1 j hj
  · rw [ne _ (by omega)]; exact n5
  · unfold lf3
    rw [ne _ (by omega), ne _ (by omega), ne _ (by omega), ne _ (by omega)]
    exact ⟨rfl, rfl⟩
  · rw [ne _ (by omega)]
  · rw [ne _ (by omega)]
theorem op_set (h : Inv I J) (i t v : Int) : OpI m_C_set m_D_set [some (vr 0 0), some (vi i), some (vi t), some (vi v), none] [some (vr 39 0), some (vi i), some (vi t), some (vi v), none] sc I J := by
  obtain ⟨n1, n2, n3, n4, n5, n6, n7, n8, n9⟩ := inv_num h
  by_cases hb : (0 ≤ i ∧ i < I 39 0 4) ∧ (0 ≤ t ∧ t ≤ 2) ∧ 0 ≤ v ∧ v ≤ 9
  · obtain ⟨⟨i0, i4⟩, ⟨t0, t2⟩, v0, v9⟩ := hb
    obtain ⟨i, rfl⟩ := Int.eq_ofNat_of_zero_le i0
    obtain ⟨w, rfl⟩ := Int.eq_ofNat_of_zero_le t0
    obtain ⟨p1, p2, p3, p4, p5, p6, p7⟩ := inv_pas h i4
    obtain ⟨D, hD⟩ := Int.eq_ofNat_of_zero_le n8
    have hD2 : I 20 0 9 = D := by omega
    have hL := lf3_in p6
    have i6 : (i : Int) < 6 := by omega
    have t3 : ¬ 3 ≤ (w : Int) := by omega
    have t1 : ¬ (w : Int) < 0 := by omega
    have v1 : ¬ v < 0 := by omega
    have hw : w < 3 := by omega
    have c3 : 0 ≤ ((1 + 3 * i + w : Nat) : Int) ∧ ((1 + 3 * i + w : Nat) : Int) < 25 := by omega
    have e3 : w32 (w32 (1 + w32 (3 * (i : Int))) + (w : Int)) = ((1 + 3 * i + w : Nat) : Int) := by rw [w32_eq (x := 3 * (i : Int)) (by omega) (by omega), w32_eq (x := 1 + 3 * (i : Int)) (by omega) (by omega), w32_eq (by omega) (by omega)]; omega
    have dl : dg (I 22 0 i) w = I 46 0 (1 + 3 * i + w) := by rw [p4, dg_lf p6 hw]
    by_cases ve : I 46 0 (1 + 3 * i + w) = v
    · refine op_no h (-4) (fun d Q hQ => ?_) (fun d Q hQ => ?_)
      · simp only [b_C_set_0, b_C_set_5, b_C_set_8, b_C_set_12, b_C_set_17, b_C_set_21, b_C_set_27, b_C_set_29, b_C_set_38, b_C_set_42, b_C_set_50, b_C_set_53, b_C_set_61, b_C_set_64, b_C_set_67, b_C_set_77, s_C_isP h, s_L_thing (show 0 ≤ I 22 0 i by omega) (show I 22 0 i ≤ 999 by omega), dl, ve, i0, i4, i6, t1, t3, v1, v9, i10, ap_s, ap_n, and_self, and_true, true_and, if_true, if_false, not_true_eq_false, not_false_eq_true, Int.toNat_natCast]
        exact hQ
      · simp only [b_D_set_0, b_D_set_5, b_D_set_8, b_D_set_14, b_D_set_17, b_D_set_24, b_D_set_27, b_D_set_29, b_D_set_41, b_D_set_49, b_D_set_52, b_D_set_61, b_D_set_64, b_D_set_68, b_D_set_81, s_D_isOne n2 n3, s_D_in, e3, c3, ve, i0, i4, t0, t2, v0, v9, i10, ap_s, ap_n, and_self, and_true, true_and, if_true, if_false, not_true_eq_false, not_false_eq_true, Int.toNat_natCast]
        exact hQ
    · by_cases c40 : D = 40
      · have r1 : ¬ (1 : Int) ≤ 40 - (D : Int) := by omega
        have r2 : I 39 0 9 = 40 := by omega
        refine op_no h (-2) (fun d Q hQ => ?_) (fun d Q hQ => ?_)
        · simp only [b_C_set_0, b_C_set_5, b_C_set_8, b_C_set_12, b_C_set_17, b_C_set_21, b_C_set_27, b_C_set_29, b_C_set_38, b_C_set_42, b_C_set_50, b_C_set_53, b_C_set_61, b_C_set_64, b_C_set_67, b_C_set_77, s_C_isP h, s_L_thing (show 0 ≤ I 22 0 i by omega) (show I 22 0 i ≤ 999 by omega), dl, ve, s_F_hasRoomFor hD2 (show D ≤ 40 by omega), r1, i0, i4, i6, t1, t3, v1, v9, i10, ap_s, ap_n, and_self, and_true, true_and, if_true, if_false, not_true_eq_false, not_false_eq_true, Int.toNat_natCast]
          exact hQ
        · simp only [b_D_set_0, b_D_set_5, b_D_set_8, b_D_set_14, b_D_set_17, b_D_set_24, b_D_set_27, b_D_set_29, b_D_set_41, b_D_set_49, b_D_set_52, b_D_set_61, b_D_set_64, b_D_set_68, b_D_set_81, s_D_isOne n2 n3, s_D_in, e3, c3, ve, r2, i0, i4, t0, t2, v0, v9, i10, ap_s, ap_n, and_self, and_true, true_and, if_true, if_false, not_true_eq_false, not_false_eq_true, Int.toNat_natCast]
          exact hQ
      · have r1 : (1 : Int) ≤ 40 - (D : Int) := by omega
        have r2 : ¬ I 39 0 9 = 40 := by omega
        have D40 : D < 40 := by omega
        obtain ⟨ok1, ok2, ok3, ok4⟩ := okS_set h i4 hw ⟨v0, v9⟩
        have cl := (set_lf (v := v) p1 p6 hw ⟨v0, v9⟩).1
        rw [← p4] at cl
        refine ⟨I 46 0 (1 + 3 * i + w), upI (nd I i D) 22 0 i (I 22 0 i + (v - dg (I 22 0 i) w) * wth w), J, upI (nt (upI (nd I i D) 22 0 i (I 22 0 i + (v - dg (I 22 0 i) w) * wth w)) D) 46 0 (1 + 3 * i + w) v, J, fun d Q hQ => ?_, fun d Q hQ => ?_, ?_⟩
        · simp only [b_C_set_0, b_C_set_5, b_C_set_8, b_C_set_12, b_C_set_17, b_C_set_21, b_C_set_27, b_C_set_29, b_C_set_38, b_C_set_42, b_C_set_50, b_C_set_53, b_C_set_61, b_C_set_64, b_C_set_67, b_C_set_77, s_C_isP h, s_L_thing (show 0 ≤ I 22 0 i by omega) (show I 22 0 i ≤ 999 by omega), s_F_hasRoomFor hD2 (show D ≤ 40 by omega), s_F_setByHand (I := I) (D := D) (t := (w : Int)) p1 hD2 D40 (show 0 ≤ I 22 0 i by omega) (show I 22 0 i ≤ 999 by omega) ⟨v0, v9⟩, r1, i0, i4, i6, t1, t3, v1, v9, i10, ap_s, ap_n, and_self, and_true, true_and, if_true, if_false, not_true_eq_false, not_false_eq_true, Int.toNat_natCast]
          rw [if_neg (by rw [dl]; exact ve), dl]
          rw [dl] at hQ
          exact hQ
        · generalize hx : I 22 0 i + (v - dg (I 22 0 i) w) * wth w = x at hQ ⊢
          simp only [b_D_set_0, b_D_set_5, b_D_set_8, b_D_set_14, b_D_set_17, b_D_set_24, b_D_set_27, b_D_set_29, b_D_set_41, b_D_set_49, b_D_set_52, b_D_set_61, b_D_set_64, b_D_set_68, b_D_set_81, s_D_isOne (I := upI (nd I i D) 22 0 i x) n2 n3, s_D_in, show upI (nd I i D) 22 0 i x 39 = I 39 from rfl, show upI (nd I i D) 22 0 i x 46 = I 46 from rfl, s_D_notes (I := upI (nd I i D) 22 0 i x) (D := D) hD D40, e3, c3, ve, r2, i0, i4, t0, t2, v0, v9, i10, ap_s, ap_n, and_self, and_true, true_and, if_true, if_false, not_true_eq_false, not_false_eq_true, Int.toNat_natCast]
          exact hQ
        · rw [← cl]
          refine inv_deed h i4 hD D40 (s' := upF (I 46 0) (1 + 3 * i + w) v) (lf' := I 22 0) (bk' := I 22 0) (cr' := 0) ok1 (by omega) ok2 (fun p => ?_) (fun p => ?_) ?_ rfl rfl (fun p => ?_) (fun p => ?_) (fun p => ?_) (fun p => ?_) (fun p _ => rfl) (fun p => ?_) (fun t i' p a1 a2 a3 a4 a5 => ?_)
          · simp [nt, brI, nd, rd_up]
          · rw [ok4, ← p5]
            by_cases e : p = i
            · rw [if_pos e, e]; rfl
            · rw [if_neg e]; rfl
          · rw [ok3, ← n4]; rfl
          · simp [nt, brI, nd, rd_up]
          · simp [nt, brI, nd, rd_up]
          · simp [nt, brI, nd, rd_up]
          · simp [nt, brI, nd, rd_up]
          · simp [nt, brI, nd, rd_up]
          · simp only [nt, brI, nd, rd_up]
            repeat rw [if_neg (by omega)]
  · refine op_no h (-1) (fun d Q hQ => ?_) (fun d Q hQ => ?_)
    · simp only [b_C_set_0, b_C_set_5, b_C_set_8, b_C_set_12, b_C_set_17, b_C_set_21, b_C_set_27, s_C_isP h, i10, ap_s, ap_n, and_self, and_true, true_and, if_true, if_false, not_true_eq_false, not_false_eq_true, Int.toNat_natCast]
      by_cases a1 : 0 ≤ i ∧ i < I 39 0 4
      · simp only [a1, i10, ap_s, ap_n, and_self, and_true, true_and, if_true, if_false, not_true_eq_false, not_false_eq_true, Int.toNat_natCast]
        (repeat' split) <;> first | exact hQ | (exfalso; omega)
      · simp only [a1, i10, ap_s, ap_n, and_self, and_true, true_and, if_true, if_false, not_true_eq_false, not_false_eq_true, Int.toNat_natCast]
        exact hQ
    · simp only [b_D_set_0, b_D_set_5, b_D_set_8, b_D_set_14, b_D_set_17, b_D_set_24, b_D_set_27, s_D_isOne n2 n3, s_D_in, i10, ap_s, ap_n, and_self, and_true, true_and, if_true, if_false, not_true_eq_false, not_false_eq_true, Int.toNat_natCast]
      (repeat' split) <;> first | exact hQ | (exfalso; simp_all; done) | (exfalso; simp_all; omega)
def udM (I : TI) (lf bk : Nat → Int) (cr : Int) : TI := fun t i p => if t = 22 ∧ i = 0 then lf p else if t = 23 ∧ i = 0 then bk p else if t = 20 ∧ i = 0 ∧ p = 8 then cr else I t i p
theorem udM_l {lf bk : Nat → Int} {cr v : Int} {q : Nat} : upI (udM I lf bk cr) 22 0 q v = udM I (upF lf q v) bk cr := by
  funext t i p
  simp only [rd_up, udM, upF]
  (repeat' split) <;> first | rfl | (exfalso; omega)
theorem udM_b {lf bk : Nat → Int} {cr v : Int} {q : Nat} : upI (udM I lf bk cr) 23 0 q v = udM I lf (upF bk q v) cr := by
  funext t i p
  simp only [rd_up, udM, upF]
  (repeat' split) <;> first | rfl | (exfalso; omega)
theorem udM_c {lf bk : Nat → Int} {cr v : Int} : upI (udM I lf bk cr) 20 0 8 v = udM I lf bk v := by
  funext t i p
  simp only [rd_up, udM]
  (repeat' split) <;> first | rfl | (exfalso; omega)
theorem l_F_undo {n cr0 dd : Int} {lf0 bk0 s : Nat → Int} {bo : Nat → Nat → Int} (hn : n ≤ 6) (h : iF n lf0 bk0 cr0 dd (I 24 0) (I 25 0) (I 26 0) (I 27 0) s bo) {N D : Nat} (hD : dd = D) (hD40 : D ≤ 40) : ∀ (m K : Nat), N + m = K → K ≤ D → ∀ (lf bk : Nat → Int) (cr : Int), (∀ j : Nat, (j : Int) < n → lf j = lf3 (stU s bo D K) j ∧ bk j = stU s bo D K (19 + j)) → cr = stU s bo D K 0 → ∃ (lf' bk' : Nat → Int) (cr' : Int), (∀ j : Nat, (j : Int) < n → lf' j = lf3 (stU s bo D N) j ∧ bk' j = stU s bo D N (19 + j)) ∧ cr' = stU s bo D N 0 ∧ ∀ (d : Nat) (Q : Option AV → AMem → Prop) (sc : SC) (J : TI) (x2 : Int) (o : Option AV), (X d m_F_undoFrom 14 [some (vr 20 0), some (vi (N : Int)), some (vi x2), some (vi ((K : Int) - 1)), o] [] (MM sc (udM I lf bk cr) J) Q ↔ Q (some (vi x2)) (MM sc (upI (udM I lf' bk' cr') 20 0 9 N) J))
  | 0, K, e, hK, lf, bk, cr, r1, r2 => by
    have e1 : K = N := by omega
    subst e1
    refine ⟨lf, bk, cr, r1, r2, fun d Q sc J x2 o => ?_⟩
    rw [b_F_undoFrom_14, if_pos (by omega), b_F_undoFrom_69, b_F_undoFrom_74]
  | m + 1, K, e, hK, lf, bk, cr, r1, r2 => by
    obtain ⟨h1, h2, h3, h4, h5, h6, h7⟩ := h
    obtain ⟨k, rfl⟩ : ∃ k, K = k + 1 := ⟨K - 1, by omega⟩
    obtain ⟨o1, o2, b, o3, o4, o5, o6, o7, o8⟩ := h7 k (by omega)
    have ek : stU s bo D k = bo k := by unfold stU; rw [if_neg (by omega)]
    have ek1 : stU s bo D (k + 1) = if (k : Int) + 1 = dd then s else bo (k + 1) := by
      unfold stU
      by_cases z : k + 1 = D
      · rw [if_pos z, if_pos (by omega)]
      · rw [if_neg z, if_neg (by omega)]
    obtain ⟨lf', bk', cr', g1, g2, g3⟩ := l_F_undo hn ⟨h1, h2, h3, h4, h5, h6, h7⟩ hD hD40 (N := N) m k (by omega) (by omega) (upF lf b (I 25 0 k)) (upF bk b (I 26 0 k)) (I 27 0 k) (fun j hj => by
      rw [ek]
      unfold upF
      by_cases z : j = b
      · rw [if_pos z, if_pos z, z]
        exact ⟨o5, o6⟩
      · rw [if_neg z, if_neg z, (r1 j hj).1, (r1 j hj).2, ek1, (o8 j hj z).1, (o8 j hj z).2]
        exact ⟨rfl, rfl⟩) (by rw [ek]; exact o7)
    refine ⟨lf', bk', cr', g1, g2, fun d Q sc J x2 o => ?_⟩
    have kc : ((k + 1 : Nat) : Int) - 1 = (k : Int) := by omega
    have w1 : w32 ((k : Int) + (-1)) = (k : Int) - 1 := by rw [w32_eq (by omega) (by omega)]; omega
    have t24 : ∀ (lf bk : Nat → Int) (cr : Int), udM I lf bk cr 24 = I 24 := fun _ _ _ => rfl
    have t25 : ∀ (lf bk : Nat → Int) (cr : Int), udM I lf bk cr 25 = I 25 := fun _ _ _ => rfl
    have t26 : ∀ (lf bk : Nat → Int) (cr : Int), udM I lf bk cr 26 = I 26 := fun _ _ _ => rfl
    have t27 : ∀ (lf bk : Nat → Int) (cr : Int), udM I lf bk cr 27 = I 27 := fun _ _ _ => rfl
    rw [kc, b_F_undoFrom_14, if_neg (by omega), b_F_undoFrom_19, and_iff_right (by omega), Int.toNat_natCast, t24, o3, b_F_undoFrom_25, and_iff_right (by omega), Int.toNat_natCast, t25, b_F_undoFrom_39, and_iff_right (by omega), Int.toNat_natCast, udM_l, b_F_undoFrom_40, and_iff_right (by omega), Int.toNat_natCast, t26, b_F_undoFrom_52, and_iff_right (by omega), Int.toNat_natCast, udM_b, b_F_undoFrom_53, and_iff_right (by omega), Int.toNat_natCast, t27, b_F_undoFrom_60, udM_c, b_F_undoFrom_63, w1]
    exact g3 d Q sc J x2 _
theorem op_undo (h : Inv I J) (n : Int) : OpI m_C_undo m_D_undo [some (vr 0 0), some (vi n)] [some (vr 39 0), some (vi n), none] sc I J := by
  obtain ⟨n1, n2, n3, n4, n5, n6, n7, n8, n9⟩ := inv_num h
  by_cases hb : 0 ≤ n ∧ n ≤ I 39 0 9
  · obtain ⟨m0, m9⟩ := hb
    obtain ⟨N, rfl⟩ := Int.eq_ofNat_of_zero_le m0
    obtain ⟨D, hD⟩ := Int.eq_ofNat_of_zero_le n8
    have hF := h.2.2.2.1.2
    have e0 : udM I (I 22 0) (I 23 0) (I 20 0 8) = I := by
      funext t i p
      simp only [udM]
      (repeat' split) <;> first | rfl | (exfalso; omega) | (simp_all; done)
    obtain ⟨lf', bk', cr', g1, g2, g3⟩ := l_F_undo n3 hF hD (by omega) (N := N) (D - N) D (by omega) (Nat.le_refl _) (I 22 0) (I 23 0) (I 20 0 8) (fun j hj => by
      unfold stU
      rw [if_pos rfl]
      exact hF.2.1 j hj) (by unfold stU; rw [if_pos rfl]; exact hF.2.2.1)
    rw [e0] at g3
    have c1 : ¬ (N : Int) < 0 := by omega
    have c2 : (N : Int) ≤ I 20 0 9 := by omega
    have w1 : w32 (I 20 0 9 - (N : Int)) = (D : Int) - N := by rw [w32_eq (by omega) (by omega)]; omega
    have w2 : w32 (I 20 0 9 - 1) = (D : Int) - 1 := by rw [w32_eq (by omega) (by omega)]; omega
    have w3 : w32 (I 39 0 9 - (N : Int)) = (D : Int) - N := by rw [w32_eq (by omega) (by omega)]; omega
    have frame : ∀ (I' : TI), (∀ t i p : Nat, t ≠ 46 → (t = 39 → p ≠ 9) → I' t i p = upI (udM I lf' bk' cr') 20 0 9 N t i p) → I' 39 0 9 = N → (∀ p, p < 25 → I' 46 0 p = stU (I 46 0) (bo0 (I 48 0) 0) D N p) → Inv I' J := fun I' f1 f2 f3 => by
      refine inv_F h (fun t i p a1 a2 a3 a4 a5 => ?_) ?_ ?_
      · rw [f1 t i p a3 a5, rd_up, if_neg (by omega)]
        simp only [udM]
        rw [if_neg (by omega), if_neg (by omega), if_neg (by omega)]
      · rw [f1 20 0 9 (by omega) (by omega), f2, rd_up, if_pos ⟨rfl, rfl, rfl⟩]
      · have q : ∀ t, t ≠ 46 → t ≠ 39 → I' t = upI (udM I lf' bk' cr') 20 0 9 N t := fun t h1 h2 => by
          funext i p
          exact f1 t i p h1 (fun z => absurd z h2)
        rw [q 22 (by omega) (by omega), q 23 (by omega) (by omega), q 20 (by omega) (by omega), q 24 (by omega) (by omega), q 25 (by omega) (by omega), q 26 (by omega) (by omega), q 27 (by omega) (by omega), q 48 (by omega) (by omega), f2]
        exact iF_undo n3 hF hD (by omega) rfl g1 g2 f3
    by_cases c3 : N = D
    · have c4 : (D : Int) - N ≤ 0 := by omega
      refine ⟨(D : Int) - N, upI (udM I lf' bk' cr') 20 0 9 N, J, upI (upI (udM I lf' bk' cr') 20 0 9 N) 39 0 9 N, J, fun d Q hQ => ?_, fun d Q hQ => ?_, ?_⟩
      · simp only [b_C_undo_0, b_C_undo_4, b_C_undo_15, b_C_undo_17, b_C_undo_25, b_F_undoFrom_0, c1, c2, w1, w2, i10, ap_s, ap_n, and_self, and_true, true_and, if_true, if_false, not_true_eq_false, not_false_eq_true, Int.toNat_natCast]
        refine (g3 _ _ _ _ _ _).mpr ?_
        simp only [b_C_undo_0, b_C_undo_4, b_C_undo_15, b_C_undo_17, b_C_undo_25, i10, ap_s, ap_n, and_self, and_true, true_and, if_true, if_false, not_true_eq_false, not_false_eq_true, Int.toNat_natCast]
        exact hQ
      · simp only [b_D_undo_0, b_D_undo_9, b_D_undo_12, b_D_undo_14, b_D_undo_25, b_D_undo_43, b_D_undo_48, s_D_in, show upI (udM I lf' bk' cr') 20 0 9 N 39 = I 39 from rfl, m0, m9, w3, c4, i10, ap_s, ap_n, and_self, and_true, true_and, if_true, if_false, not_true_eq_false, not_false_eq_true, Int.toNat_natCast]
        exact hQ
      · refine frame _ (fun t i p a1 a2 => ?_) rfl (fun p hp => ?_)
        · rw [rd_up (t := 39), if_neg (by omega)]
        · unfold stU
          rw [if_pos c3]
          rfl
    · have c4 : ¬ (D : Int) - N ≤ 0 := by omega
      have e : w32 (25 * (N : Int)) = ((25 * N : Nat) : Int) := by rw [w32_eq (by omega) (by omega)]; omega
      refine ⟨(D : Int) - N, upI (udM I lf' bk' cr') 20 0 9 N, J, upI (brI (upI (udM I lf' bk' cr') 20 0 9 N) 48 0 (25 * N) 46 0 0 25) 39 0 9 N, J, fun d Q hQ => ?_, fun d Q hQ => ?_, ?_⟩
      · simp only [b_C_undo_0, b_C_undo_4, b_C_undo_15, b_C_undo_17, b_C_undo_25, b_F_undoFrom_0, c1, c2, w1, w2, i10, ap_s, ap_n, and_self, and_true, true_and, if_true, if_false, not_true_eq_false, not_false_eq_true, Int.toNat_natCast]
        refine (g3 _ _ _ _ _ _).mpr ?_
        simp only [b_C_undo_0, b_C_undo_4, b_C_undo_15, b_C_undo_17, b_C_undo_25, i10, ap_s, ap_n, and_self, and_true, true_and, if_true, if_false, not_true_eq_false, not_false_eq_true, Int.toNat_natCast]
        exact hQ
      · simp only [b_D_undo_0, b_D_undo_9, b_D_undo_12, b_D_undo_14, b_D_undo_25, s_D_in, show upI (udM I lf' bk' cr') 20 0 9 N 39 = I 39 from rfl, m0, m9, w3, c4, e, i10, ap_s, ap_n, and_self, and_true, true_and, if_true, if_false, not_true_eq_false, not_false_eq_true, Int.toNat_natCast]
        refine (s_D_bring (t0 := 48) (i0 := 0) (n0 := 1000) (t2 := 46) (i2 := 0) (n2 := 25) (a := 25 * N) (b := 0) (n := 25) (fun _ _ => rfl) (fun _ _ => rfl) (by decide) (by omega) (by decide) (by decide) (by decide)).mpr ?_
        simp only [b_D_undo_0, b_D_undo_9, b_D_undo_12, b_D_undo_14, b_D_undo_25, b_D_undo_43, b_D_undo_48, i10, ap_s, ap_n, and_self, and_true, true_and, if_true, if_false, not_true_eq_false, not_false_eq_true, Int.toNat_natCast]
        exact hQ
      · refine frame _ (fun t i p a1 a2 => ?_) rfl (fun p hp => ?_)
        · rw [rd_up (t := 39), if_neg (by omega)]
          simp only [brI]
          rw [if_neg (by omega)]
        · unfold stU
          rw [if_neg c3]
          rw [rd_up (t := 39), if_neg (by omega)]
          simp only [brI, bo0]
          rw [if_pos ⟨trivial, trivial, by omega, by omega⟩]
          exact congrArg (I 48 0) (show 25 * N + (p - 0) = 0 + 25 * N + p by omega)
  · refine op_no h (-1) (fun d Q hQ => ?_) (fun d Q hQ => ?_)
    · simp only [b_C_undo_0, b_C_undo_4, b_C_undo_15, i10, ap_s, ap_n, and_self, and_true, true_and, if_true, if_false, not_true_eq_false, not_false_eq_true, Int.toNat_natCast]
      (repeat' split) <;> first | exact hQ | (exfalso; omega)
    · simp only [b_D_undo_0, b_D_undo_9, b_D_undo_12, s_D_in, hb, i10, ap_s, ap_n, and_self, and_true, true_and, if_true, if_false, not_true_eq_false, not_false_eq_true, Int.toNat_natCast]
      exact hQ
end SU
