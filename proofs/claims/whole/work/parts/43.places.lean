/-! PLACES, MEAN -/
section PL
variable {d : Nat} {Q : Option AV → AMem → Prop} {sc : SC} {I J : TI}
theorem inv_T {I' : TI} (h : Inv I J) {r : Nat} (hr : r < 4) {n : Int} (hn : -1 ≤ n ∧ n ≤ 60) (fr : ∀ t i p : Nat, (t = 0 → p ≠ 6) → (t = 39 → p ≠ 12) → (t = 28 → i = 6 + r → p ≠ 1) → (t = 29 → i ≠ 6 + r) → (t = 42 → p ≠ r) → (t = 43 → p < 60 * r ∨ 60 * r + 60 ≤ p) → I' t i p = I t i p) (ha : I' 0 0 6 = I' 39 0 12) (h28 : I' 28 (6 + r) 1 = n) (h40 : I' 42 0 r = n) (hp : ∀ p : Nat, (p : Int) < n → I' 29 (6 + r) p = I' 43 0 (60 * r + p)) : Inv I' J := by
  have ft : ∀ t : Nat, t ≠ 0 → t ≠ 39 → t ≠ 28 → t ≠ 29 → t ≠ 42 → t ≠ 43 → I' t = I t := fun t h1 h2 h3 h4 h5 h6 => by
    funext i p
    exact fr t i p (by omega) (by omega) (by omega) (by omega) (by omega) (by omega)
  obtain ⟨g1, g2, g3, g4, g5, g6⟩ := h
  have f1 : ∀ p, p ≠ 12 → I' 39 0 p = I 39 0 p := fun p hp => fr 39 0 p (by omega) (by omega) (by omega) (by omega) (by omega) (by omega)
  have f2 : ∀ p, p ≠ 6 → I' 0 0 p = I 0 0 p := fun p hp => fr 0 0 p (by omega) (by omega) (by omega) (by omega) (by omega) (by omega)
  refine ⟨?_, ?_, ?_, ?_, ?_, ?_⟩
  · intro q hq
    have := g1 q hq
    rw [ft 40 (by omega) (by omega) (by omega) (by omega) (by omega) (by omega), ft 41 (by omega) (by omega) (by omega) (by omega) (by omega) (by omega), fr 28 q 1 (by omega) (by omega) (by omega) (by omega) (by omega) (by omega)]
    refine ⟨this.1, this.2.1, this.2.2.1, fun p hpp => ?_⟩
    rw [fr 29 q p (by omega) (by omega) (by omega) (by omega) (by omega) (by omega)]
    exact this.2.2.2 p hpp
  · intro q hq
    by_cases e : q = r
    · subst e
      exact ⟨by rw [h28, h40], by omega, by omega, fun p hpp => hp p (by omega)⟩
    · have := g2 q hq
      rw [fr 42 0 q (by omega) (by omega) (by omega) (by omega) (by omega) (by omega), fr 28 (6 + q) 1 (by omega) (by omega) (by omega) (by omega) (by omega) (by omega)]
      refine ⟨this.1, this.2.1, this.2.2.1, fun p hpp => ?_⟩
      rw [fr 29 (6 + q) p (by omega) (by omega) (by omega) (by omega) (by omega) (by omega), fr 43 0 (60 * q + p) (by omega) (by omega) (by omega) (by omega) (by omega) (by omega)]
      exact this.2.2.2 p hpp
  · rw [f1 4 (by omega), ft 20 (by omega) (by omega) (by omega) (by omega) (by omega) (by omega), ft 21 (by omega) (by omega) (by omega) (by omega) (by omega) (by omega), ft 45 (by omega) (by omega) (by omega) (by omega) (by omega) (by omega)]
    exact g3
  · rw [f1 4 (by omega), f1 9 (by omega), ft 20 (by omega) (by omega) (by omega) (by omega) (by omega) (by omega), ft 22 (by omega) (by omega) (by omega) (by omega) (by omega) (by omega), ft 23 (by omega) (by omega) (by omega) (by omega) (by omega) (by omega), ft 24 (by omega) (by omega) (by omega) (by omega) (by omega) (by omega), ft 25 (by omega) (by omega) (by omega) (by omega) (by omega) (by omega), ft 26 (by omega) (by omega) (by omega) (by omega) (by omega) (by omega), ft 27 (by omega) (by omega) (by omega) (by omega) (by omega) (by omega), ft 46 (by omega) (by omega) (by omega) (by omega) (by omega) (by omega), ft 48 (by omega) (by omega) (by omega) (by omega) (by omega) (by omega)]
    exact g4
  · rw [f1 4 (by omega), ft 20 (by omega) (by omega) (by omega) (by omega) (by omega) (by omega), ft 21 (by omega) (by omega) (by omega) (by omega) (by omega) (by omega), ft 22 (by omega) (by omega) (by omega) (by omega) (by omega) (by omega), ft 23 (by omega) (by omega) (by omega) (by omega) (by omega) (by omega), ft 24 (by omega) (by omega) (by omega) (by omega) (by omega) (by omega), ft 25 (by omega) (by omega) (by omega) (by omega) (by omega) (by omega), ft 26 (by omega) (by omega) (by omega) (by omega) (by omega) (by omega), ft 27 (by omega) (by omega) (by omega) (by omega) (by omega) (by omega), ft 45 (by omega) (by omega) (by omega) (by omega) (by omega) (by omega), ft 50 (by omega) (by omega) (by omega) (by omega) (by omega) (by omega), ft 51 (by omega) (by omega) (by omega) (by omega) (by omega) (by omega)]
    exact g5
  · rw [f1 15 (by omega), f2 5 (by omega), ha, ft 5 (by omega) (by omega) (by omega) (by omega) (by omega) (by omega), ft 56 (by omega) (by omega) (by omega) (by omega) (by omega) (by omega)]
    exact ⟨g6.1, rfl, g6.2.2⟩
theorem s_C_refusalOfPlace {i0 : Nat} {a : Int} (h1 : -1 ≤ I 28 i0 1) (h2 : I 28 i0 1 ≤ 60) : X (d + 1) m_C_refusalOfPlace 0 [some (vr 0 0), some (vr 28 i0), some (vi a)] [] (MM sc I J) Q ↔ if I 28 i0 1 < 0 then Q (some (vi (-3))) (MM sc (fdC I 1) J) else if 0 ≤ a ∧ a < I 28 i0 1 then Q (some (vi 0)) (MM sc I J) else Q (some (vi (-3))) (MM sc (fdC I 2) J) := by
  simp only [b_C_refusalOfPlace_0, b_C_refusalOfPlace_4, b_C_refusalOfPlace_7, b_C_refusalOfPlace_12, b_C_refusalOfPlace_13, b_C_refusalOfPlace_19, b_C_refusalOfPlace_22, b_C_refusalOfPlace_27, b_C_refusalOfPlace_28, s_R_isMissing, s_R_hasPlaces h1 h2, s_C_fd1, s_C_fd2, i10, ap_s, ap_n, and_self, and_true, true_and, if_true, if_false, not_true_eq_false, not_false_eq_true, Int.toNat_natCast]
  (repeat' split) <;> first | exact Iff.rfl | (exfalso; omega) | (exfalso; simp at *; done) | (exfalso; simp at *; omega)
theorem s_D_placeOf {r : Nat} {a : Int} (hr : (r : Int) < 6) (h1 : -1 ≤ I 40 0 r) (h2 : I 40 0 r ≤ 40) : X (d + 1) m_D_placeOf 0 [some (vr 39 0), some (vi (r : Int)), some (vi a)] [] (MM sc I J) Q ↔ Q (some (vi (if I 40 0 r < 0 then 1 else if 0 ≤ a ∧ a < I 40 0 r then 0 else 2))) (MM sc I J) := by
  have r0 : (0 : Int) ≤ r := by omega
  have e1 : w32 (I 40 0 r - 1) = I 40 0 r - 1 := w32_eq (by omega) (by omega)
  simp only [b_D_placeOf_0, b_D_placeOf_6, b_D_placeOf_9, b_D_placeOf_13, b_D_placeOf_21, b_D_placeOf_26, b_D_placeOf_29, b_D_placeOf_33, b_D_placeOf_34, s_D_in, r0, hr, e1, i10, ap_s, ap_n, and_self, and_true, true_and, if_true, if_false, not_true_eq_false, not_false_eq_true, Int.toNat_natCast]
  by_cases c : I 40 0 r < 0
  · have c1 : ¬ (0 ≤ I 40 0 r) := by omega
    simp only [c, c1, i10, ap_s, ap_n, and_self, and_true, true_and, if_true, if_false, not_true_eq_false, not_false_eq_true, Int.toNat_natCast]
  · have c1 : 0 ≤ I 40 0 r := by omega
    by_cases c2 : 0 ≤ a ∧ a < I 40 0 r
    · have c3 : 0 ≤ a ∧ a ≤ I 40 0 r - 1 := by omega
      simp [c, c1, c2, c3]
    · have c3 : ¬ (0 ≤ a ∧ a ≤ I 40 0 r - 1) := by omega
      simp only [c, c1, c2, c3, i10, ap_s, ap_n, and_self, and_true, true_and, if_true, if_false, not_true_eq_false, not_false_eq_true, Int.toNat_natCast]
theorem op_lay (h : Inv I J) (r a v : Int) : OpI m_C_lay m_D_lay [some (vr 0 0), some (vi r), some (vi a), some (vi v), none] [some (vr 39 0), some (vi r), some (vi a), some (vi v), none, none] sc I J := by
  by_cases hb : 0 ≤ r ∧ r ≤ 5
  · obtain ⟨r0, r5⟩ := hb
    obtain ⟨r, rfl⟩ := Int.eq_ofNat_of_zero_le r0
    have r6 : (r : Int) < 6 := by omega
    obtain ⟨k1, k2, k3, k4⟩ := h.1 r (by omega)
    by_cases c1 : I 28 r 1 < 0
    · have d1 : I 40 0 r < 0 := by omega
      refine op_fd h (f := 1) (by decide) (fun d Q hQ => ?_) (fun d Q hQ => ?_)
      · simp only [b_C_lay_0, b_C_lay_4, b_C_lay_7, b_C_lay_9, b_C_lay_16, b_C_lay_20, b_C_lay_27, b_C_lay_30, b_C_lay_37, b_C_lay_42, b_C_lay_45, b_C_lay_51, b_C_lay_57, s_C_isRow, s_C_refusalOfPlace (I := I) (i0 := r) (by omega) (by omega), c1, r0, r5, r6, i10, ap_s, ap_n, and_self, and_true, true_and, if_true, if_false, not_true_eq_false, not_false_eq_true, Int.toNat_natCast]
        exact hQ
      · simp only [b_D_lay_0, b_D_lay_4, b_D_lay_7, b_D_lay_9, b_D_lay_15, b_D_lay_22, b_D_lay_28, b_D_lay_29, b_D_lay_40, b_D_lay_54, b_D_lay_61, s_D_isRow, s_D_placeOf (I := fdC I 1) (r := r) r6 (by rw [fC40]; omega) (by rw [fC40]; omega), fC40, s_D_fd1, d1, r0, r5, r6, i10, ap_s, ap_n, and_self, and_true, true_and, if_true, if_false, not_true_eq_false, not_false_eq_true, Int.toNat_natCast]
        exact hQ
    · have d1 : ¬ I 40 0 r < 0 := by omega
      by_cases c2 : 0 ≤ a ∧ a < I 28 r 1
      · obtain ⟨a0, a1⟩ := c2
        obtain ⟨a, rfl⟩ := Int.eq_ofNat_of_zero_le a0
        have al : (a : Int) < ((lenP r : Nat) : Int) := by unfold lenP; split <;> omega
        have d2 : (a : Int) < I 40 0 r := by omega
        have e1 : w32 (w32 (40 * (r : Int)) + (a : Int)) = ((40 * r + a : Nat) : Int) := by rw [w32_eq (x := 40 * (r : Int)) (by omega) (by omega), w32_eq (by omega) (by omega)]; omega
        have e2 : 0 ≤ ((40 * r + a : Nat) : Int) ∧ ((40 * r + a : Nat) : Int) < 240 := by omega
        refine ⟨1, upI (upI I 0 0 6 (I 29 r a)) 29 r a v, J, upI (upI (upI (upI I 0 0 6 (I 29 r a)) 29 r a v) 41 0 (40 * r + a) v) 39 0 12 (I 41 0 (40 * r + a)), J, fun d Q hQ => ?_, fun d Q hQ => ?_, ?_⟩
        · simp only [b_C_lay_0, b_C_lay_4, b_C_lay_7, b_C_lay_9, b_C_lay_16, b_C_lay_20, b_C_lay_27, b_C_lay_30, b_C_lay_37, b_C_lay_42, b_C_lay_45, b_C_lay_51, b_C_lay_57, s_C_isRow, s_C_refusalOfPlace (I := I) (i0 := r) (by omega) (by omega), c1, a0, a1, al, r0, r5, r6, i10, ap_s, ap_n, and_self, and_true, true_and, if_true, if_false, not_true_eq_false, not_false_eq_true, Int.toNat_natCast]
          exact hQ
        · simp only [b_D_lay_0, b_D_lay_4, b_D_lay_7, b_D_lay_9, b_D_lay_15, b_D_lay_22, b_D_lay_28, b_D_lay_29, b_D_lay_40, b_D_lay_54, b_D_lay_61, s_D_isRow, s_D_placeOf (I := upI (upI I 0 0 6 (I 29 r a)) 29 r a v) (r := r) r6 (show -1 ≤ I 40 0 r by omega) (show I 40 0 r ≤ 40 by omega), show (upI (upI I 0 0 6 (I 29 r a)) 29 r a v) 40 = I 40 from rfl, show (upI (upI I 0 0 6 (I 29 r a)) 29 r a v) 41 = I 41 from rfl, s_D_tells, d1, d2, a0, e1, e2, r0, r5, r6, i10, ap_s, ap_n, and_self, and_true, true_and, if_true, if_false, not_true_eq_false, not_false_eq_true, Int.toNat_natCast]
          exact hQ
        · refine inv_R h (show r < 6 by omega) (n := I 28 r 1) (by omega) (fun t i p a1 a2 a3 a4 a5 a6 => ?_) ?_ rfl k1 (fun p hp => ?_)
          · simp only [rd_up]
            (repeat' split) <;> first | rfl | (exfalso; omega)
          · simp [rd_up, k4 a a1]
          · have := k4 p hp
            simp only [rd_up]
            by_cases e : p = a <;> simp [e, this]
      · have d2 : ¬ (0 ≤ a ∧ a < I 40 0 r) := by omega
        refine op_fd h (f := 2) (by decide) (fun d Q hQ => ?_) (fun d Q hQ => ?_)
        · simp only [b_C_lay_0, b_C_lay_4, b_C_lay_7, b_C_lay_9, b_C_lay_16, b_C_lay_20, b_C_lay_27, b_C_lay_30, b_C_lay_37, b_C_lay_42, b_C_lay_45, b_C_lay_51, b_C_lay_57, s_C_isRow, s_C_refusalOfPlace (I := I) (i0 := r) (by omega) (by omega), c1, c2, r0, r5, r6, i10, ap_s, ap_n, and_self, and_true, true_and, if_true, if_false, not_true_eq_false, not_false_eq_true, Int.toNat_natCast]
          exact hQ
        · simp only [b_D_lay_0, b_D_lay_4, b_D_lay_7, b_D_lay_9, b_D_lay_15, b_D_lay_22, b_D_lay_28, b_D_lay_29, b_D_lay_40, b_D_lay_54, b_D_lay_61, s_D_isRow, s_D_placeOf (I := fdC I 2) (r := r) r6 (by rw [fC40]; omega) (by rw [fC40]; omega), fC40, s_D_fd2, d1, d2, r0, r5, r6, i10, ap_s, ap_n, and_self, and_true, true_and, if_true, if_false, not_true_eq_false, not_false_eq_true, Int.toNat_natCast]
          exact hQ
  · refine op_no h (-1) (fun d Q hQ => ?_) (fun d Q hQ => ?_)
    · simp only [b_C_lay_0, b_C_lay_4, b_C_lay_7, b_C_lay_9, b_C_lay_16, b_C_lay_20, b_C_lay_27, b_C_lay_30, b_C_lay_37, b_C_lay_42, b_C_lay_45, b_C_lay_51, b_C_lay_57, s_C_isRow, hb, i10, ap_s, ap_n, and_self, and_true, true_and, if_true, if_false, not_true_eq_false, not_false_eq_true, Int.toNat_natCast]
      exact hQ
    · simp only [b_D_lay_0, b_D_lay_4, b_D_lay_7, b_D_lay_9, b_D_lay_15, b_D_lay_22, b_D_lay_28, b_D_lay_29, b_D_lay_40, b_D_lay_54, b_D_lay_61, s_D_isRow, hb, i10, ap_s, ap_n, and_self, and_true, true_and, if_true, if_false, not_true_eq_false, not_false_eq_true, Int.toNat_natCast]
      exact hQ
theorem op_at (h : Inv I J) (r a : Int) : OpI m_C_at m_D_at [some (vr 0 0), some (vi r), some (vi a), none] [some (vr 39 0), some (vi r), some (vi a), none] sc I J := by
  by_cases hb : 0 ≤ r ∧ r ≤ 5
  · obtain ⟨r0, r5⟩ := hb
    obtain ⟨r, rfl⟩ := Int.eq_ofNat_of_zero_le r0
    have r6 : (r : Int) < 6 := by omega
    obtain ⟨k1, k2, k3, k4⟩ := h.1 r (by omega)
    by_cases c1 : I 28 r 1 < 0
    · have d1 : I 40 0 r < 0 := by omega
      refine op_fd h (f := 1) (by decide) (fun d Q hQ => ?_) (fun d Q hQ => ?_)
      · simp only [b_C_at_0, b_C_at_4, b_C_at_7, b_C_at_9, b_C_at_16, b_C_at_20, b_C_at_25, b_C_at_27, b_C_at_34, b_C_at_39, b_C_at_42, s_C_isRow, s_C_refusalOfPlace (I := I) (i0 := r) (by omega) (by omega), c1, r0, r5, r6, i10, ap_s, ap_n, and_self, and_true, true_and, if_true, if_false, not_true_eq_false, not_false_eq_true, Int.toNat_natCast]
        exact hQ
      · simp only [b_D_at_0, b_D_at_4, b_D_at_7, b_D_at_9, b_D_at_15, b_D_at_20, b_D_at_25, b_D_at_28, b_D_at_40, b_D_at_44, s_D_isRow, s_D_placeOf (I := fdC I 1) (r := r) r6 (by rw [fC40]; omega) (by rw [fC40]; omega), fC40, s_D_fd1, d1, r0, r5, r6, i10, ap_s, ap_n, and_self, and_true, true_and, if_true, if_false, not_true_eq_false, not_false_eq_true, Int.toNat_natCast]
        exact hQ
    · have d1 : ¬ I 40 0 r < 0 := by omega
      by_cases c2 : 0 ≤ a ∧ a < I 28 r 1
      · obtain ⟨a0, a1⟩ := c2
        obtain ⟨a, rfl⟩ := Int.eq_ofNat_of_zero_le a0
        have al : (a : Int) < ((lenP r : Nat) : Int) := by unfold lenP; split <;> omega
        have d2 : (a : Int) < I 40 0 r := by omega
        have e1 : w32 (w32 (40 * (r : Int)) + (a : Int)) = ((40 * r + a : Nat) : Int) := by rw [w32_eq (x := 40 * (r : Int)) (by omega) (by omega), w32_eq (by omega) (by omega)]; omega
        have e2 : 0 ≤ ((40 * r + a : Nat) : Int) ∧ ((40 * r + a : Nat) : Int) < 240 := by omega
        refine ⟨1, upI I 0 0 6 (I 29 r a), J, upI (upI I 0 0 6 (I 29 r a)) 39 0 12 (I 41 0 (40 * r + a)), J, fun d Q hQ => ?_, fun d Q hQ => ?_, ?_⟩
        · simp only [b_C_at_0, b_C_at_4, b_C_at_7, b_C_at_9, b_C_at_16, b_C_at_20, b_C_at_25, b_C_at_27, b_C_at_34, b_C_at_39, b_C_at_42, s_C_isRow, s_C_refusalOfPlace (I := I) (i0 := r) (by omega) (by omega), c1, a0, a1, al, r0, r5, r6, i10, ap_s, ap_n, and_self, and_true, true_and, if_true, if_false, not_true_eq_false, not_false_eq_true, Int.toNat_natCast]
          exact hQ
        · simp only [b_D_at_0, b_D_at_4, b_D_at_7, b_D_at_9, b_D_at_15, b_D_at_20, b_D_at_25, b_D_at_28, b_D_at_40, b_D_at_44, s_D_isRow, s_D_placeOf (I := upI I 0 0 6 (I 29 r a)) (r := r) r6 (show -1 ≤ I 40 0 r by omega) (show I 40 0 r ≤ 40 by omega), show (upI I 0 0 6 (I 29 r a)) 40 = I 40 from rfl, show (upI I 0 0 6 (I 29 r a)) 41 = I 41 from rfl, s_D_tells, d1, d2, a0, e1, e2, r0, r5, r6, i10, ap_s, ap_n, and_self, and_true, true_and, if_true, if_false, not_true_eq_false, not_false_eq_true, Int.toNat_natCast]
          exact hQ
        · refine inv_R h (show r < 6 by omega) (n := I 28 r 1) (by omega) (fun t i p a1 a2 a3 a4 a5 a6 => ?_) ?_ rfl k1 (fun p hp => ?_)
          · simp only [rd_up]
            (repeat' split) <;> first | rfl | (exfalso; omega)
          · simp [rd_up, k4 a a1]
          · have := k4 p hp
            simp only [rd_up]
            simp [this]
      · have d2 : ¬ (0 ≤ a ∧ a < I 40 0 r) := by omega
        refine op_fd h (f := 2) (by decide) (fun d Q hQ => ?_) (fun d Q hQ => ?_)
        · simp only [b_C_at_0, b_C_at_4, b_C_at_7, b_C_at_9, b_C_at_16, b_C_at_20, b_C_at_25, b_C_at_27, b_C_at_34, b_C_at_39, b_C_at_42, s_C_isRow, s_C_refusalOfPlace (I := I) (i0 := r) (by omega) (by omega), c1, c2, r0, r5, r6, i10, ap_s, ap_n, and_self, and_true, true_and, if_true, if_false, not_true_eq_false, not_false_eq_true, Int.toNat_natCast]
          exact hQ
        · simp only [b_D_at_0, b_D_at_4, b_D_at_7, b_D_at_9, b_D_at_15, b_D_at_20, b_D_at_25, b_D_at_28, b_D_at_40, b_D_at_44, s_D_isRow, s_D_placeOf (I := fdC I 2) (r := r) r6 (by rw [fC40]; omega) (by rw [fC40]; omega), fC40, s_D_fd2, d1, d2, r0, r5, r6, i10, ap_s, ap_n, and_self, and_true, true_and, if_true, if_false, not_true_eq_false, not_false_eq_true, Int.toNat_natCast]
          exact hQ
  · refine op_no h (-1) (fun d Q hQ => ?_) (fun d Q hQ => ?_)
    · simp only [b_C_at_0, b_C_at_4, b_C_at_7, b_C_at_9, b_C_at_16, b_C_at_20, b_C_at_25, b_C_at_27, b_C_at_34, b_C_at_39, b_C_at_42, s_C_isRow, hb, i10, ap_s, ap_n, and_self, and_true, true_and, if_true, if_false, not_true_eq_false, not_false_eq_true, Int.toNat_natCast]
      exact hQ
    · simp only [b_D_at_0, b_D_at_4, b_D_at_7, b_D_at_9, b_D_at_15, b_D_at_20, b_D_at_25, b_D_at_28, b_D_at_40, b_D_at_44, s_D_isRow, hb, i10, ap_s, ap_n, and_self, and_true, true_and, if_true, if_false, not_true_eq_false, not_false_eq_true, Int.toNat_natCast]
      exact hQ
theorem op_tear (h : Inv I J) (r : Int) : OpI m_C_tear m_D_tear [some (vr 0 0), some (vi r)] [some (vr 39 0), some (vi r)] sc I J := by
  by_cases hb : 0 ≤ r ∧ r ≤ 5
  · obtain ⟨r0, r5⟩ := hb
    obtain ⟨r, rfl⟩ := Int.eq_ofNat_of_zero_le r0
    have r6 : (r : Int) < 6 := by omega
    obtain ⟨k1, k2, k3, k4⟩ := h.1 r (by omega)
    by_cases c1 : I 28 r 1 < 0
    · have d1 : ¬ 0 ≤ I 40 0 r := by omega
      refine op_fd h (f := 1) (by decide) (fun d Q hQ => ?_) (fun d Q hQ => ?_)
      · simp only [b_C_tear_0, b_C_tear_4, b_C_tear_7, b_C_tear_9, b_C_tear_15, b_C_tear_18, b_C_tear_21, b_C_tear_26, b_C_tear_27, b_C_tear_33, b_C_tear_37, s_C_isRow, s_R_isMissing, s_C_fd1, c1, r0, r5, r6, i10, ap_s, ap_n, and_self, and_true, true_and, if_true, if_false, not_true_eq_false, not_false_eq_true, Int.toNat_natCast]
        exact hQ
      · simp only [b_D_tear_0, b_D_tear_4, b_D_tear_7, b_D_tear_9, b_D_tear_15, b_D_tear_18, b_D_tear_23, b_D_tear_24, b_D_tear_31, s_D_isRow, fC40, s_D_fd1, d1, r0, r5, r6, i10, ap_s, ap_n, and_self, and_true, true_and, if_true, if_false, not_true_eq_false, not_false_eq_true, Int.toNat_natCast]
        exact hQ
    · have d1 : 0 ≤ I 40 0 r := by omega
      refine ⟨1, upI I 28 r 1 (-1), J, upI (upI I 28 r 1 (-1)) 40 0 r (-1), J, fun d Q hQ => ?_, fun d Q hQ => ?_, ?_⟩
      · simp only [b_C_tear_0, b_C_tear_4, b_C_tear_7, b_C_tear_9, b_C_tear_15, b_C_tear_18, b_C_tear_21, b_C_tear_26, b_C_tear_27, b_C_tear_33, b_C_tear_37, s_C_isRow, s_R_isMissing, c1, r0, r5, r6, i10, ap_s, ap_n, and_self, and_true, true_and, if_true, if_false, not_true_eq_false, not_false_eq_true, Int.toNat_natCast]
        exact hQ
      · simp only [b_D_tear_0, b_D_tear_4, b_D_tear_7, b_D_tear_9, b_D_tear_15, b_D_tear_18, b_D_tear_23, b_D_tear_24, b_D_tear_31, s_D_isRow, show (upI I 28 r 1 (-1)) 40 = I 40 from rfl, d1, r0, r5, r6, i10, ap_s, ap_n, and_self, and_true, true_and, if_true, if_false, not_true_eq_false, not_false_eq_true, Int.toNat_natCast]
        exact hQ
      · refine inv_R h (show r < 6 by omega) (n := -1) (by omega) (fun t i p a1 a2 a3 a4 a5 a6 => ?_) h.2.2.2.2.2.2.1 ?_ ?_ (fun p hp => by omega)
        · simp only [rd_up]
          (repeat' split) <;> first | rfl | (exfalso; omega)
        · simp [rd_up]
        · simp [rd_up]
  · refine op_no h (-1) (fun d Q hQ => ?_) (fun d Q hQ => ?_)
    · simp only [b_C_tear_0, b_C_tear_4, b_C_tear_7, b_C_tear_9, b_C_tear_15, b_C_tear_18, b_C_tear_21, b_C_tear_26, b_C_tear_27, b_C_tear_33, b_C_tear_37, s_C_isRow, hb, i10, ap_s, ap_n, and_self, and_true, true_and, if_true, if_false, not_true_eq_false, not_false_eq_true, Int.toNat_natCast]
      exact hQ
    · simp only [b_D_tear_0, b_D_tear_4, b_D_tear_7, b_D_tear_9, b_D_tear_15, b_D_tear_18, b_D_tear_23, b_D_tear_24, b_D_tear_31, s_D_isRow, hb, i10, ap_s, ap_n, and_self, and_true, true_and, if_true, if_false, not_true_eq_false, not_false_eq_true, Int.toNat_natCast]
      exact hQ
theorem op_text (h : Inv I J) (r n : Int) : OpI m_C_text m_D_text [some (vr 0 0), some (vi r), some (vi n)] [some (vr 39 0), some (vi r), some (vi n), none] sc I J := by
  by_cases hb : (0 ≤ r ∧ r ≤ 3) ∧ n ≤ 60
  · obtain ⟨⟨r0, r5⟩, n40⟩ := hb
    obtain ⟨r, rfl⟩ := Int.eq_ofNat_of_zero_le r0
    have r6 : (r : Int) < 4 := by omega
    by_cases hn : 0 ≤ n
    · obtain ⟨n, rfl⟩ := Int.eq_ofNat_of_zero_le hn
      refine ⟨n, rnI I (6 + r) n 32, J, flI (upI (rnI I (6 + r) n 32) 42 0 r n) 43 0 (60 * r + 0) (60 * r + n) 32, J, fun d Q hQ => ?_, fun d Q hQ => ?_, ?_⟩
      · simp only [b_C_text_0, b_C_text_4, b_C_text_7, b_C_text_13, b_C_text_15, b_C_text_19, b_C_text_24, b_C_text_25, b_C_text_31, b_C_text_37, s_C_isText, s_R_renew (show n ≤ lenP (6 + r) by unfold lenP; split <;> omega), r0, r5, r6, n40, hn, i10, ap_s, ap_n, and_self, and_true, true_and, if_true, if_false, not_true_eq_false, not_false_eq_true, Int.toNat_natCast]
        exact hQ
      · have := l_D_text (d := d + 20) (Q := Q) (sc := sc) (J := J) (show r < 4 by omega) (show n ≤ 60 by omega) n 0 (upI (rnI I (6 + r) n 32) 42 0 r n) (by omega)
        rw [show ((0 : Nat) : Int) = 0 from rfl] at this
        simp only [b_D_text_0, b_D_text_4, b_D_text_7, b_D_text_13, b_D_text_15, b_D_text_19, b_D_text_24, b_D_text_25, b_D_text_32, s_D_isText, r0, r5, r6, n40, hn, i10, ap_s, ap_n, and_self, and_true, true_and, if_true, if_false, not_true_eq_false, not_false_eq_true, Int.toNat_natCast, this]
        exact hQ
      · refine inv_T h (show r < 4 by omega) (n := n) (by omega) (fun t i p a1 a2 a3 a4 a5 a6 => ?_) h.2.2.2.2.2.2.1 ?_ ?_ (fun p hp => ?_)
        · simp only [rnI, flI, rd_up]
          (repeat' split) <;> first | rfl | (exfalso; omega)
        · simp [rnI, flI, rd_up]
        · simp [rnI, flI, rd_up]
        · have : p < n := by omega
          simp [rnI, flI, rd_up, this]
    · refine op_fd h (f := 5) (by decide) (fun d Q hQ => ?_) (fun d Q hQ => ?_)
      · simp only [b_C_text_0, b_C_text_4, b_C_text_7, b_C_text_13, b_C_text_15, b_C_text_19, b_C_text_24, b_C_text_25, b_C_text_31, b_C_text_37, s_C_isText, s_C_fd5, r0, r5, r6, n40, hn, i10, ap_s, ap_n, and_self, and_true, true_and, if_true, if_false, not_true_eq_false, not_false_eq_true, Int.toNat_natCast]
        exact hQ
      · simp only [b_D_text_0, b_D_text_4, b_D_text_7, b_D_text_13, b_D_text_15, b_D_text_19, b_D_text_24, b_D_text_25, b_D_text_32, s_D_isText, s_D_fd5, r0, r5, r6, n40, hn, i10, ap_s, ap_n, and_self, and_true, true_and, if_true, if_false, not_true_eq_false, not_false_eq_true, Int.toNat_natCast]
        exact hQ
  · refine op_no h (-1) (fun d Q hQ => ?_) (fun d Q hQ => ?_)
    · simp only [b_C_text_0, b_C_text_4, b_C_text_7, b_C_text_13, s_C_isText, i10, ap_s, ap_n, and_self, and_true, true_and, if_true, if_false, not_true_eq_false, not_false_eq_true, Int.toNat_natCast]
      by_cases q : 0 ≤ r ∧ r ≤ 3
      · have q2 : ¬ n ≤ 60 := by omega
        simp only [q, q2, i10, ap_s, ap_n, and_self, and_true, true_and, if_true, if_false, not_true_eq_false, not_false_eq_true, Int.toNat_natCast]
        exact hQ
      · simp only [q, i10, ap_s, ap_n, and_self, and_true, true_and, if_true, if_false, not_true_eq_false, not_false_eq_true, Int.toNat_natCast]
        exact hQ
    · simp only [b_D_text_0, b_D_text_4, b_D_text_7, b_D_text_13, s_D_isText, i10, ap_s, ap_n, and_self, and_true, true_and, if_true, if_false, not_true_eq_false, not_false_eq_true, Int.toNat_natCast]
      by_cases q : 0 ≤ r ∧ r ≤ 3
      · have q2 : ¬ n ≤ 60 := by omega
        simp only [q, q2, i10, ap_s, ap_n, and_self, and_true, true_and, if_true, if_false, not_true_eq_false, not_false_eq_true, Int.toNat_natCast]
        exact hQ
      · simp only [q, i10, ap_s, ap_n, and_self, and_true, true_and, if_true, if_false, not_true_eq_false, not_false_eq_true, Int.toNat_natCast]
        exact hQ
theorem op_put (h : Inv I J) (r a v : Int) : OpI m_C_put m_D_put [some (vr 0 0), some (vi r), some (vi a), some (vi v), none, none] [some (vr 39 0), some (vi r), some (vi a), some (vi v), none] sc I J := by
  by_cases hb : 0 ≤ r ∧ r ≤ 3
  · obtain ⟨r0, r5⟩ := hb
    obtain ⟨r, rfl⟩ := Int.eq_ofNat_of_zero_le r0
    have r6 : (r : Int) < 4 := by omega
    obtain ⟨k1, k2, k3, k4⟩ := h.2.1 r (by omega)
    by_cases c1 : I 28 (6 + r) 1 < 0
    · have d1 : ¬ 0 ≤ I 42 0 r := by omega
      refine op_fd h (f := 1) (by decide) (fun d Q hQ => ?_) (fun d Q hQ => ?_)
      · simp only [b_C_put_0, b_C_put_4, b_C_put_7, b_C_put_9, b_C_put_16, b_C_put_20, b_C_put_27, b_C_put_30, b_C_put_36, b_C_put_41, b_C_put_49, b_C_put_56, s_C_isText, s_C_refusalOfPlace (I := I) (i0 := 6 + r) (by omega) (by omega), c1, r0, r5, r6, i10, ap_s, ap_n, and_self, and_true, true_and, if_true, if_false, not_true_eq_false, not_false_eq_true, Int.toNat_natCast]
        exact hQ
      · simp only [b_D_put_0, b_D_put_4, b_D_put_7, b_D_put_9, b_D_put_15, b_D_put_18, b_D_put_23, b_D_put_24, b_D_put_32, b_D_put_37, b_D_put_40, b_D_put_45, b_D_put_46, b_D_put_57, b_D_put_77, s_D_isText, fC42, s_D_fd1, d1, r0, r5, r6, i10, ap_s, ap_n, and_self, and_true, true_and, if_true, if_false, not_true_eq_false, not_false_eq_true, Int.toNat_natCast]
        exact hQ
    · have d1 : 0 ≤ I 42 0 r := by omega
      have e0 : w32 (I 42 0 r - 1) = I 42 0 r - 1 := w32_eq (by omega) (by omega)
      by_cases c2 : 0 ≤ a ∧ a < I 28 (6 + r) 1
      · obtain ⟨a0, a1⟩ := c2
        obtain ⟨a, rfl⟩ := Int.eq_ofNat_of_zero_le a0
        have al : (a : Int) < ((lenP (6 + r) : Nat) : Int) := by unfold lenP; split <;> omega
        have d2 : (a : Int) ≤ I 42 0 r - 1 := by omega
        have e1 : w32 (w32 (60 * (r : Int)) + (a : Int)) = ((60 * r + a : Nat) : Int) := by rw [w32_eq (x := 60 * (r : Int)) (by omega) (by omega), w32_eq (by omega) (by omega)]; omega
        have e2 : 0 ≤ ((60 * r + a : Nat) : Int) ∧ ((60 * r + a : Nat) : Int) < 240 := by omega
        refine ⟨w32 (I 29 (6 + r) a + 1000), upI I 29 (6 + r) a (w8 v), J, upI (upI I 29 (6 + r) a (w8 v)) 43 0 (60 * r + a) (w8 v), J, fun d Q hQ => ?_, fun d Q hQ => ?_, ?_⟩
        · simp only [b_C_put_0, b_C_put_4, b_C_put_7, b_C_put_9, b_C_put_16, b_C_put_20, b_C_put_27, b_C_put_30, b_C_put_36, b_C_put_41, b_C_put_49, b_C_put_56, s_C_isText, s_C_refusalOfPlace (I := I) (i0 := 6 + r) (by omega) (by omega), c1, a0, a1, al, r0, r5, r6, i10, ap_s, ap_n, and_self, and_true, true_and, if_true, if_false, not_true_eq_false, not_false_eq_true, Int.toNat_natCast]
          exact hQ
        · simp only [b_D_put_0, b_D_put_4, b_D_put_7, b_D_put_9, b_D_put_15, b_D_put_18, b_D_put_23, b_D_put_24, b_D_put_32, b_D_put_37, b_D_put_40, b_D_put_45, b_D_put_46, b_D_put_57, b_D_put_77, s_D_isText, s_D_in, show (upI I 29 (6 + r) a (w8 v)) 42 = I 42 from rfl, show (upI I 29 (6 + r) a (w8 v)) 43 = I 43 from rfl, w8_shift, d1, d2, a0, e0, e1, e2, r0, r5, r6, i10, ap_s, ap_n, and_self, and_true, true_and, if_true, if_false, not_true_eq_false, not_false_eq_true, Int.toNat_natCast]
          rw [k4 a a1] at hQ
          exact hQ
        · refine inv_T h (show r < 4 by omega) (n := I 28 (6 + r) 1) (by omega) (fun t i p a1 a2 a3 a4 a5 a6 => ?_) h.2.2.2.2.2.2.1 rfl k1 (fun p hp => ?_)
          · simp only [rd_up]
            (repeat' split) <;> first | rfl | (exfalso; omega)
          · have := k4 p hp
            simp only [rd_up]
            by_cases e : p = a <;> simp [e, this]
      · have d2 : ¬ (0 ≤ a ∧ a ≤ I 42 0 r - 1) := by omega
        refine op_fd h (f := 2) (by decide) (fun d Q hQ => ?_) (fun d Q hQ => ?_)
        · simp only [b_C_put_0, b_C_put_4, b_C_put_7, b_C_put_9, b_C_put_16, b_C_put_20, b_C_put_27, b_C_put_30, b_C_put_36, b_C_put_41, b_C_put_49, b_C_put_56, s_C_isText, s_C_refusalOfPlace (I := I) (i0 := 6 + r) (by omega) (by omega), c1, c2, r0, r5, r6, i10, ap_s, ap_n, and_self, and_true, true_and, if_true, if_false, not_true_eq_false, not_false_eq_true, Int.toNat_natCast]
          exact hQ
        · simp only [b_D_put_0, b_D_put_4, b_D_put_7, b_D_put_9, b_D_put_15, b_D_put_18, b_D_put_23, b_D_put_24, b_D_put_32, b_D_put_37, b_D_put_40, b_D_put_45, b_D_put_46, b_D_put_57, b_D_put_77, s_D_isText, s_D_in, fC42, s_D_fd2, d1, d2, e0, r0, r5, r6, i10, ap_s, ap_n, and_self, and_true, true_and, if_true, if_false, not_true_eq_false, not_false_eq_true, Int.toNat_natCast]
          exact hQ
  · refine op_no h (-1) (fun d Q hQ => ?_) (fun d Q hQ => ?_)
    · simp only [b_C_put_0, b_C_put_4, b_C_put_7, b_C_put_9, b_C_put_16, b_C_put_20, b_C_put_27, b_C_put_30, b_C_put_36, b_C_put_41, b_C_put_49, b_C_put_56, s_C_isText, hb, i10, ap_s, ap_n, and_self, and_true, true_and, if_true, if_false, not_true_eq_false, not_false_eq_true, Int.toNat_natCast]
      exact hQ
    · simp only [b_D_put_0, b_D_put_4, b_D_put_7, b_D_put_9, b_D_put_15, b_D_put_18, b_D_put_23, b_D_put_24, b_D_put_32, b_D_put_37, b_D_put_40, b_D_put_45, b_D_put_46, b_D_put_57, b_D_put_77, s_D_isText, hb, i10, ap_s, ap_n, and_self, and_true, true_and, if_true, if_false, not_true_eq_false, not_false_eq_true, Int.toNat_natCast]
      exact hQ
def sm64 (f : Nat → Int) : Nat → Int
  | 0 => 0
  | k + 1 => w64 (sm64 f k + f k)
theorem sm64_eq {f g : Nat → Int} : ∀ {n : Nat}, (∀ k, k < n → f k = g k) → sm64 f n = sm64 g n
  | 0, _ => rfl
  | n + 1, h => by
    unfold sm64
    rw [sm64_eq (n := n) (fun k hk => h k (by omega)), h n (by omega)]
theorem l_C_mean {r n : Nat} {x1 : Int} (hn : n ≤ lenP r) (hs : I 28 r 1 = n) : ∀ (m k : Nat), k + m = n → (X d m_C_mean 47 [some (vr 0 0), some (vi x1), some (vr 28 r), some (vl (sm64 (I 29 r) k)), none, some (vi (k : Int))] [] (MM sc I J) Q ↔ X d m_C_mean 73 [some (vr 0 0), some (vi x1), some (vr 28 r), some (vl (sm64 (I 29 r) n)), none, some (vi (n : Int))] [] (MM sc I J) Q)
  | 0, k, e => by
    have e1 : k = n := by omega
    subst e1
    rw [b_C_mean_47, hs, if_pos (Int.le_refl _)]
  | m + 1, k, e => by
    have hl := lenP_le r
    have c1 : ¬ ((n : Int) ≤ k) := by omega
    have c2 : 0 ≤ (k : Int) ∧ (k : Int) < ((lenP r : Nat) : Int) := by omega
    rw [b_C_mean_47, hs, if_neg c1, b_C_mean_56, and_iff_right c2, b_C_mean_64, Int.toNat_natCast, wsuc (by omega)]
    exact l_C_mean hn hs m (k + 1) (by omega)
theorem l_D_mean {r n : Nat} (hr : r < 6) (hn : n ≤ 40) (hs : I 40 0 r = n) : ∀ (m k : Nat), k + m = n → (X d m_D_mean 44 [some (vr 39 0), some (vi (r : Int)), some (vl (sm64 (fun p => I 41 0 (40 * r + p)) k)), none, some (vi (k : Int))] [] (MM sc I J) Q ↔ X d m_D_mean 77 [some (vr 39 0), some (vi (r : Int)), some (vl (sm64 (fun p => I 41 0 (40 * r + p)) n)), none, some (vi (n : Int))] [] (MM sc I J) Q)
  | 0, k, e => by
    have e1 : k = n := by omega
    subst e1
    rw [b_D_mean_44, and_iff_right (by omega), Int.toNat_natCast, hs, b_D_mean_52, if_pos (Int.le_refl _)]
  | m + 1, k, e => by
    have c1 : ¬ ((n : Int) ≤ k) := by omega
    have e1 : w32 (w32 (40 * (r : Int)) + (k : Int)) = ((40 * r + k : Nat) : Int) := by rw [w32_eq (x := 40 * (r : Int)) (by omega) (by omega), w32_eq (by omega) (by omega)]; omega
    have c2 : 0 ≤ ((40 * r + k : Nat) : Int) ∧ ((40 * r + k : Nat) : Int) < 240 := by omega
    rw [b_D_mean_44, and_iff_right (by omega), Int.toNat_natCast, hs, b_D_mean_52, if_neg c1, b_D_mean_55, e1, and_iff_right c2, b_D_mean_68, Int.toNat_natCast, wsuc (by omega)]
    exact l_D_mean hr hn hs m (k + 1) (by omega)
theorem op_mean (h : Inv I J) (r : Int) : OpI m_C_mean m_D_mean [some (vr 0 0), some (vi r), none, none, none, none] [some (vr 39 0), some (vi r), none, none, none] sc I J := by
  by_cases hb : 0 ≤ r ∧ r ≤ 5
  · obtain ⟨r0, r5⟩ := hb
    obtain ⟨r, rfl⟩ := Int.eq_ofNat_of_zero_le r0
    have r6 : (r : Int) < 6 := by omega
    obtain ⟨k1, k2, k3, k4⟩ := h.1 r (by omega)
    by_cases c1 : I 28 r 1 < 0
    · have d1 : ¬ 0 ≤ I 40 0 r := by omega
      refine op_fd h (f := 1) (by decide) (fun d Q hQ => ?_) (fun d Q hQ => ?_)
      · simp only [b_C_mean_0, b_C_mean_4, b_C_mean_7, b_C_mean_9, b_C_mean_15, b_C_mean_20, b_C_mean_23, b_C_mean_28, b_C_mean_29, s_C_isRow, s_R_isMissing, s_C_fd1, c1, r0, r5, r6, i10, ap_s, ap_n, and_self, and_true, true_and, if_true, if_false, not_true_eq_false, not_false_eq_true, Int.toNat_natCast]
        exact hQ
      · simp only [b_D_mean_0, b_D_mean_4, b_D_mean_7, b_D_mean_9, b_D_mean_15, b_D_mean_18, b_D_mean_23, b_D_mean_24, s_D_isRow, fC40, s_D_fd1, d1, r0, r5, r6, i10, ap_s, ap_n, and_self, and_true, true_and, if_true, if_false, not_true_eq_false, not_false_eq_true, Int.toNat_natCast]
        exact hQ
    · have d1 : 0 ≤ I 40 0 r := by omega
      by_cases c2 : I 28 r 1 = 0
      · have d2 : I 40 0 r = 0 := by omega
        refine op_fd h (f := 4) (by decide) (fun d Q hQ => ?_) (fun d Q hQ => ?_)
        · simp only [b_C_mean_0, b_C_mean_4, b_C_mean_7, b_C_mean_9, b_C_mean_15, b_C_mean_20, b_C_mean_23, b_C_mean_28, b_C_mean_29, b_C_mean_36, b_C_mean_41, s_C_isRow, s_R_isMissing, s_C_fd4, c1, c2, r0, r5, r6, i10, ap_s, ap_n, and_self, and_true, true_and, if_true, if_false, not_true_eq_false, not_false_eq_true, Int.toNat_natCast]
          exact hQ
        · simp only [b_D_mean_0, b_D_mean_4, b_D_mean_7, b_D_mean_9, b_D_mean_15, b_D_mean_18, b_D_mean_23, b_D_mean_24, b_D_mean_30, b_D_mean_33, b_D_mean_38, s_D_isRow, fC40, s_D_fd4, d1, d2, r0, r5, r6, i10, ap_s, ap_n, and_self, and_true, true_and, if_true, if_false, not_true_eq_false, not_false_eq_true, Int.toNat_natCast]
          exact hQ
      · have d2 : ¬ I 40 0 r = 0 := by omega
        obtain ⟨n, hn⟩ := Int.eq_ofNat_of_zero_le (show 0 ≤ I 28 r 1 by omega)
        have hn2 : I 40 0 r = n := by omega
        have n0 : ¬ (n : Int) = 0 := by omega
        have hl : n ≤ lenP r := by unfold lenP; split <;> omega
        have es : sm64 (fun p => I 41 0 (40 * r + p)) n = sm64 (I 29 r) n := sm64_eq (fun k hk => (k4 k (by omega)).symm)
        refine ⟨1, upI I 0 0 6 (w32 (w64 ((sm64 (I 29 r) n).tdiv n))), J, upI (upI I 0 0 6 (w32 (w64 ((sm64 (I 29 r) n).tdiv n)))) 39 0 12 (w32 (w64 ((sm64 (I 29 r) n).tdiv n))), J, fun d Q hQ => ?_, fun d Q hQ => ?_, ?_⟩
        · simp only [b_C_mean_0, b_C_mean_4, b_C_mean_7, b_C_mean_9, b_C_mean_15, b_C_mean_20, b_C_mean_23, b_C_mean_28, b_C_mean_29, b_C_mean_36, b_C_mean_41, b_C_mean_42, s_C_isRow, s_R_isMissing, c1, c2, r0, r5, r6, i10, ap_s, ap_n, and_self, and_true, true_and, if_true, if_false, not_true_eq_false, not_false_eq_true, Int.toNat_natCast]
          refine (l_C_mean hl hn n 0 (by omega)).mpr ?_
          simp only [b_C_mean_73, b_C_mean_81, b_C_mean_85, hn, n0, i10, ap_s, ap_n, and_self, and_true, true_and, if_true, if_false, not_true_eq_false, not_false_eq_true, Int.toNat_natCast]
          exact hQ
        · simp only [b_D_mean_0, b_D_mean_4, b_D_mean_7, b_D_mean_9, b_D_mean_15, b_D_mean_18, b_D_mean_23, b_D_mean_24, b_D_mean_30, b_D_mean_33, b_D_mean_38, b_D_mean_39, s_D_isRow, show (upI I 0 0 6 (w32 (w64 ((sm64 (I 29 r) n).tdiv n)))) 40 = I 40 from rfl, d1, d2, r0, r5, r6, i10, ap_s, ap_n, and_self, and_true, true_and, if_true, if_false, not_true_eq_false, not_false_eq_true, Int.toNat_natCast]
          refine (l_D_mean (I := upI I 0 0 6 (w32 (w64 ((sm64 (I 29 r) n).tdiv n)))) (show r < 6 by omega) (show n ≤ 40 by omega) hn2 n 0 (by omega)).mpr ?_
          simp only [b_D_mean_77, b_D_mean_85, b_D_mean_87, b_D_mean_92, show (upI I 0 0 6 (w32 (w64 ((sm64 (I 29 r) n).tdiv n)))) 40 = I 40 from rfl, show (upI I 0 0 6 (w32 (w64 ((sm64 (I 29 r) n).tdiv n)))) 41 = I 41 from rfl, es, s_D_tells, hn2, n0, r0, r6, i10, ap_s, ap_n, and_self, and_true, true_and, if_true, if_false, not_true_eq_false, not_false_eq_true, Int.toNat_natCast]
          exact hQ
        · exact inv_R h (show r < 6 by omega) (n := I 28 r 1) (by omega) (fun t i p a1 a2 a3 a4 a5 a6 => (by
            simp only [rd_up]
            (repeat' split) <;> first | rfl | (exfalso; omega))) (by simp [rd_up]) rfl k1 k4
  · refine op_no h (-1) (fun d Q hQ => ?_) (fun d Q hQ => ?_)
    · simp only [b_C_mean_0, b_C_mean_4, b_C_mean_7, b_C_mean_9, s_C_isRow, hb, i10, ap_s, ap_n, and_self, and_true, true_and, if_true, if_false, not_true_eq_false, not_false_eq_true, Int.toNat_natCast]
      exact hQ
    · simp only [b_D_mean_0, b_D_mean_4, b_D_mean_7, b_D_mean_9, s_D_isRow, hb, i10, ap_s, ap_n, and_self, and_true, true_and, if_true, if_false, not_true_eq_false, not_false_eq_true, Int.toNat_natCast]
      exact hQ
end PL
