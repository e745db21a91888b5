/-! COPY, BRING -/
def brI (I : TI) (t0 i0 a t2 i2 b n : Nat) : TI := fun t i p => if t = t2 ∧ i = i2 ∧ b ≤ p ∧ p < b + n then I t0 i0 (a + (p - b)) else I t i p
def cpR (I : TI) (A B lo hi : Nat) : TI := fun t i p => if t = 41 ∧ i = 0 ∧ B + lo ≤ p ∧ p < B + hi then I 41 0 (A + (p - B)) else I t i p
theorem ifc {c : Prop} [Decidable c] {x y z : Int} (h1 : c → x = z) (h2 : ¬ c → y = z) : (if c then x else y) = z := by split; exact h1 ‹_›; exact h2 ‹_›
section CP
variable {d : Nat} {Q : Option AV → AMem → Prop} {sc : SC} {I J : TI}
theorem br_nil {t0 i0 a t2 i2 b : Nat} : brI I t0 i0 a t2 i2 b 0 = I := by
  funext t i p
  simp only [brI]
  split <;> first | rfl | (exfalso; omega)
theorem br_step {t0 i0 a t2 i2 b k : Nat} (hne : ¬ (t0 = t2 ∧ i0 = i2)) : upI (brI I t0 i0 a t2 i2 b k) t2 i2 (b + k) (brI I t0 i0 a t2 i2 b k t0 i0 (a + k)) = brI I t0 i0 a t2 i2 b (k + 1) := by
  have e : brI I t0 i0 a t2 i2 b k t0 i0 (a + k) = I t0 i0 (a + k) := by
    simp only [brI]
    split <;> first | rfl | (exfalso; omega)
  rw [e]
  funext t i p
  simp only [rd_up]
  simp only [brI]
  by_cases c : t = t2 ∧ i = i2 ∧ p = b + k
  · obtain ⟨c1, c2, c3⟩ := c
    subst c1 c2 c3
    simp
  · rw [if_neg c]
    (repeat' split) <;> first | rfl | (exfalso; omega)
theorem l_D_bring {t0 i0 n0 t2 i2 n2 a b n : Nat} (h0 : ∀ f g, cellF sc t0 i0 f g = .inl (0, n0, f)) (h2 : ∀ f g, cellF sc t2 i2 f g = .inl (0, n2, f)) (hne : ¬ (t0 = t2 ∧ i0 = i2)) (ha : a + n ≤ n0) (hb : b + n ≤ n2) (hn0 : n0 ≤ 5000) (hn2 : n2 ≤ 5000) : ∀ (m k : Nat), k + m = n → (X d m_D_bring 3 [some (vr t0 i0), some (vi (a : Int)), some (vr t2 i2), some (vi (b : Int)), some (vi (n : Int)), some (vi (k : Int))] [] (MM sc (brI I t0 i0 a t2 i2 b k) J) Q ↔ Q none (MM sc (brI I t0 i0 a t2 i2 b n) J))
  | 0, k, e => by
    have e1 : k = n := by omega
    subst e1
    rw [b_D_bring_3, if_pos (Int.le_refl _), b_D_bring_28]
  | m + 1, k, e => by
    have c1 : ¬ ((n : Int) ≤ k) := by omega
    have e1 : w32 ((a : Int) + (k : Int)) = ((a + k : Nat) : Int) := by rw [w32_eq (by omega) (by omega)]; omega
    have e2 : w32 ((b : Int) + (k : Int)) = ((b + k : Nat) : Int) := by rw [w32_eq (by omega) (by omega)]; omega
    have c2 : 0 ≤ ((a + k : Nat) : Int) ∧ ((a + k : Nat) : Int) < (n0 : Int) := by omega
    have c3 : 0 ≤ ((b + k : Nat) : Int) ∧ ((b + k : Nat) : Int) < (n2 : Int) := by omega
    rw [b_D_bring_3, if_neg c1, b_D_bring_10 h0, e1, and_iff_right c2, e2, b_D_bring_21 h2, and_iff_right c3, b_D_bring_22, Int.toNat_natCast, Int.toNat_natCast, wsuc (by omega), br_step hne]
    exact l_D_bring h0 h2 hne ha hb hn0 hn2 m (k + 1) (by omega)
theorem s_D_bring {t0 i0 n0 t2 i2 n2 a b n : Nat} (h0 : ∀ f g, cellF sc t0 i0 f g = .inl (0, n0, f)) (h2 : ∀ f g, cellF sc t2 i2 f g = .inl (0, n2, f)) (hne : ¬ (t0 = t2 ∧ i0 = i2)) (ha : a + n ≤ n0) (hb : b + n ≤ n2) (hn0 : n0 ≤ 5000) (hn2 : n2 ≤ 5000) : X d m_D_bring 0 [some (vr t0 i0), some (vi (a : Int)), some (vr t2 i2), some (vi (b : Int)), some (vi (n : Int)), none] [] (MM sc I J) Q ↔ Q none (MM sc (brI I t0 i0 a t2 i2 b n) J) := by
  rw [b_D_bring_0]
  have := l_D_bring (d := d) (I := I) (J := J) (Q := Q) h0 h2 hne ha hb hn0 hn2 n 0 (by omega)
  rw [br_nil] at this
  exact this
theorem cp_read {A B lo hi q : Nat} (h : A + q < B + lo ∨ B + hi ≤ A + q) : cpR I A B lo hi 41 0 (A + q) = I 41 0 (A + q) := by
  simp only [cpR]
  split <;> first | rfl | (exfalso; omega)
theorem cp_hi {A B lo hi : Nat} (h : lo ≤ hi) : upI (cpR I A B lo hi) 41 0 (B + hi) (I 41 0 (A + hi)) = cpR I A B lo (hi + 1) := by
  funext t i p
  simp only [rd_up]
  simp only [cpR]
  by_cases c : t = 41 ∧ i = 0 ∧ p = B + hi
  · obtain ⟨c1, c2, c3⟩ := c
    subst c1 c2 c3
    simp [h]
  · rw [if_neg c]
    (repeat' split) <;> first | rfl | (exfalso; omega)
theorem cp_lo {A B lo hi : Nat} (h : lo < hi) : upI (cpR I A B (lo + 1) hi) 41 0 (B + lo) (I 41 0 (A + lo)) = cpR I A B lo hi := by
  funext t i p
  simp only [rd_up]
  simp only [cpR]
  by_cases c : t = 41 ∧ i = 0 ∧ p = B + lo
  · obtain ⟨c1, c2, c3⟩ := c
    subst c1 c2 c3
    simp [h]
  · rw [if_neg c]
    (repeat' split) <;> first | rfl | (exfalso; omega)
theorem cp_nil {A B lo hi : Nat} (h : hi ≤ lo) : cpR I A B lo hi = I := by
  funext t i p
  simp only [cpR]
  split <;> first | rfl | (exfalso; omega)
theorem l_D_copy0 {r a q b n : Nat} (hr : r < 6) (hq : q < 6) (ha : a + n ≤ 40) (hb : b + n ≤ 40) (hd : 40 * q + b ≤ 40 * r + a ∨ 40 * r + a + n ≤ 40 * q + b) : ∀ (m k : Nat) (o : Option AV), k + m = n → (X d m_D_copy 116 [some (vr 39 0), some (vi (r : Int)), some (vi (a : Int)), some (vi (q : Int)), some (vi (b : Int)), some (vi (n : Int)), some (vi 0), some (vi (k : Int)), o] [] (MM sc (cpR I (40 * r + a) (40 * q + b) 0 k) J) Q ↔ Q (some (vi 1)) (MM sc (cpR I (40 * r + a) (40 * q + b) 0 n) J))
  | 0, k, o, e => by
    have e1 : k = n := by omega
    subst e1
    rw [b_D_copy_116, if_pos (Int.le_refl _), b_D_copy_177]
  | m + 1, k, o, e => by
    have c1 : ¬ ((n : Int) ≤ k) := by omega
    have e1 : w32 (w32 (w32 (40 * (r : Int)) + (a : Int)) + (k : Int)) = ((40 * r + a + k : Nat) : Int) := by rw [w32_eq (x := 40 * (r : Int)) (by omega) (by omega), w32_eq (x := 40 * (r : Int) + (a : Int)) (by omega) (by omega), w32_eq (by omega) (by omega)]; omega
    have e2 : w32 (w32 (w32 (40 * (q : Int)) + (b : Int)) + (k : Int)) = ((40 * q + b + k : Nat) : Int) := by rw [w32_eq (x := 40 * (q : Int)) (by omega) (by omega), w32_eq (x := 40 * (q : Int) + (b : Int)) (by omega) (by omega), w32_eq (by omega) (by omega)]; omega
    have c2 : 0 ≤ ((40 * r + a + k : Nat) : Int) ∧ ((40 * r + a + k : Nat) : Int) < 240 := by omega
    have c3 : 0 ≤ ((40 * q + b + k : Nat) : Int) ∧ ((40 * q + b + k : Nat) : Int) < 240 := by omega
    rw [b_D_copy_116, if_neg c1, b_D_copy_123, if_pos rfl, b_D_copy_138, b_D_copy_140, e1, and_iff_right c2, e2, b_D_copy_170, and_iff_right c3, b_D_copy_171, Int.toNat_natCast, Int.toNat_natCast, wsuc (by omega), cp_read (by omega), cp_hi (by omega)]
    exact l_D_copy0 hr hq ha hb hd m (k + 1) _ (by omega)
theorem l_D_copy1 {r a q b n : Nat} (hr : r < 6) (hq : q < 6) (ha : a + n ≤ 40) (hb : b + n ≤ 40) (hd : 40 * r + a ≤ 40 * q + b ∨ 40 * q + b + n ≤ 40 * r + a) : ∀ (m k : Nat) (o : Option AV), k + m = n → (X d m_D_copy 116 [some (vr 39 0), some (vi (r : Int)), some (vi (a : Int)), some (vi (q : Int)), some (vi (b : Int)), some (vi (n : Int)), some (vi 1), some (vi (k : Int)), o] [] (MM sc (cpR I (40 * r + a) (40 * q + b) m n) J) Q ↔ Q (some (vi 1)) (MM sc (cpR I (40 * r + a) (40 * q + b) 0 n) J))
  | 0, k, o, e => by
    have e1 : k = n := by omega
    subst e1
    rw [b_D_copy_116, if_pos (Int.le_refl _), b_D_copy_177]
  | m + 1, k, o, e => by
    have c1 : ¬ ((n : Int) ≤ k) := by omega
    have e0 : w32 (w32 ((n : Int) - 1) - (k : Int)) = (m : Int) := by rw [w32_eq (x := (n : Int) - 1) (by omega) (by omega), w32_eq (by omega) (by omega)]; omega
    have e1 : w32 (w32 (w32 (40 * (r : Int)) + (a : Int)) + (m : Int)) = ((40 * r + a + m : Nat) : Int) := by rw [w32_eq (x := 40 * (r : Int)) (by omega) (by omega), w32_eq (x := 40 * (r : Int) + (a : Int)) (by omega) (by omega), w32_eq (by omega) (by omega)]; omega
    have e2 : w32 (w32 (w32 (40 * (q : Int)) + (b : Int)) + (m : Int)) = ((40 * q + b + m : Nat) : Int) := by rw [w32_eq (x := 40 * (q : Int)) (by omega) (by omega), w32_eq (x := 40 * (q : Int) + (b : Int)) (by omega) (by omega), w32_eq (by omega) (by omega)]; omega
    have c2 : 0 ≤ ((40 * r + a + m : Nat) : Int) ∧ ((40 * r + a + m : Nat) : Int) < 240 := by omega
    have c3 : 0 ≤ ((40 * q + b + m : Nat) : Int) ∧ ((40 * q + b + m : Nat) : Int) < 240 := by omega
    rw [b_D_copy_116, if_neg c1, b_D_copy_123, if_neg (by decide), b_D_copy_128, b_D_copy_140, e0, e1, and_iff_right c2, e2, b_D_copy_170, and_iff_right c3, b_D_copy_171, Int.toNat_natCast, Int.toNat_natCast, wsuc (by omega), cp_read (by omega), cp_lo (by omega)]
    exact l_D_copy1 hr hq ha hb hd m (k + 1) _ (by omega)
theorem s_D_copyL {r a q b n : Nat} (hr : r < 6) (hq : q < 6) (ha : a + n ≤ 40) (hb : b + n ≤ 40) : X d m_D_copy 100 [some (vr 39 0), some (vi (r : Int)), some (vi (a : Int)), some (vi (q : Int)), some (vi (b : Int)), some (vi (n : Int)), none, none, none] [] (MM sc I J) Q ↔ Q (some (vi 1)) (MM sc (cpR I (40 * r + a) (40 * q + b) 0 n) J) := by
  rw [b_D_copy_100]
  by_cases c : (b : Int) ≤ a
  · have c' : r < q ∨ q ≤ r := by omega
    have := l_D_copy0 (d := d) (sc := sc) (I := I) (J := J) (Q := Q) hr hq ha hb (by omega) n 0 none (by omega)
    rw [cp_nil (Nat.le_refl _)] at this
    rw [if_pos c, b_D_copy_110, b_D_copy_111]
    exact this
  · have := l_D_copy1 (d := d) (sc := sc) (I := I) (J := J) (Q := Q) hr hq ha hb (by omega) n 0 none (by omega)
    rw [cp_nil (Nat.le_refl _)] at this
    rw [if_neg c, b_D_copy_106, b_D_copy_111]
    exact this
theorem op_copy (h : Inv I J) (r a q b n : Int) : OpI m_C_copy m_D_copy [some (vr 0 0), some (vi r), some (vi a), some (vi q), some (vi b), some (vi n)] [some (vr 39 0), some (vi r), some (vi a), some (vi q), some (vi b), some (vi n), none, none, none] sc I J := by
  by_cases hb : 0 ≤ r ∧ r ≤ 5
  · by_cases hb2 : 0 ≤ q ∧ q ≤ 5
    · obtain ⟨r0, r5⟩ := hb
      obtain ⟨q0, q5⟩ := hb2
      obtain ⟨r, rfl⟩ := Int.eq_ofNat_of_zero_le r0
      obtain ⟨q, rfl⟩ := Int.eq_ofNat_of_zero_le q0
      have r6 : (r : Int) < 6 := by omega
      have q6 : (q : Int) < 6 := by omega
      obtain ⟨k1, k2, k3, k4⟩ := h.1 r (by omega)
      obtain ⟨g1, g2, g3, g4⟩ := h.1 q (by omega)
      by_cases hn : 0 ≤ n
      · by_cases c1 : I 28 r 1 < 0
        · have d1 : I 40 0 r < 0 := by omega
          refine op_fd h (f := 1) (by decide) (fun d Q hQ => ?_) (fun d Q hQ => ?_)
          · simp only [b_C_copy_0, b_C_copy_4, b_C_copy_7, b_C_copy_11, b_C_copy_14, b_C_copy_16, b_C_copy_21, b_C_copy_26, b_C_copy_27, b_C_copy_33, b_C_copy_36, b_C_copy_39, b_C_copy_45, b_C_copy_48, b_C_copy_51, b_C_copy_56, s_C_isRow, s_R_isMissing, s_C_fd1, c1, hn, r0, r5, r6, q0, q5, q6, i10, ap_s, ap_n, and_self, and_true, true_and, if_true, if_false, not_true_eq_false, not_false_eq_true, Int.toNat_natCast]
            exact hQ
          · simp only [b_D_copy_0, b_D_copy_4, b_D_copy_7, b_D_copy_11, b_D_copy_14, b_D_copy_16, b_D_copy_21, b_D_copy_26, b_D_copy_27, b_D_copy_33, b_D_copy_36, b_D_copy_42, b_D_copy_45, b_D_copy_50, s_D_isRow, fC40, s_D_fd1, d1, hn, r0, r5, r6, q0, q5, q6, i10, ap_s, ap_n, and_self, and_true, true_and, if_true, if_false, not_true_eq_false, not_false_eq_true, Int.toNat_natCast]
            exact hQ
        · have d1 : ¬ I 40 0 r < 0 := by omega
          by_cases c2 : I 28 q 1 < 0
          · have d2 : ¬ 0 ≤ I 40 0 q := by omega
            refine op_fd h (f := 1) (by decide) (fun d Q hQ => ?_) (fun d Q hQ => ?_)
            · simp only [b_C_copy_0, b_C_copy_4, b_C_copy_7, b_C_copy_11, b_C_copy_14, b_C_copy_16, b_C_copy_21, b_C_copy_26, b_C_copy_27, b_C_copy_33, b_C_copy_36, b_C_copy_39, b_C_copy_45, b_C_copy_48, b_C_copy_51, b_C_copy_56, s_C_isRow, s_R_isMissing, s_C_fd1, c1, c2, hn, r0, r5, r6, q0, q5, q6, i10, ap_s, ap_n, and_self, and_true, true_and, if_true, if_false, not_true_eq_false, not_false_eq_true, Int.toNat_natCast]
              exact hQ
            · simp only [b_D_copy_0, b_D_copy_4, b_D_copy_7, b_D_copy_11, b_D_copy_14, b_D_copy_16, b_D_copy_21, b_D_copy_26, b_D_copy_27, b_D_copy_33, b_D_copy_36, b_D_copy_42, b_D_copy_45, b_D_copy_50, s_D_isRow, fC40, s_D_fd1, d1, d2, hn, r0, r5, r6, q0, q5, q6, i10, ap_s, ap_n, and_self, and_true, true_and, if_true, if_false, not_true_eq_false, not_false_eq_true, Int.toNat_natCast]
              exact hQ
          · have d2 : 0 ≤ I 40 0 q := by omega
            by_cases c3 : (0 ≤ a ∧ a ≤ I 28 r 1 ∧ n ≤ I 28 r 1 - a) ∧ (0 ≤ b ∧ b ≤ I 28 q 1 ∧ n ≤ I 28 q 1 - b)
            · obtain ⟨u, v⟩ := c3
              obtain ⟨a, rfl⟩ := Int.eq_ofNat_of_zero_le u.1
              obtain ⟨b, rfl⟩ := Int.eq_ofNat_of_zero_le v.1
              obtain ⟨n, rfl⟩ := Int.eq_ofNat_of_zero_le hn
              have x1 : ¬ (a : Int) < 0 := by omega
              have x2 : ¬ (b : Int) < 0 := by omega
              have x3 : ¬ 40 < (n : Int) := by omega
              have x4 : ¬ w32 (I 40 0 r - (n : Int)) < (a : Int) := by rw [w32_eq (by omega) (by omega)]; omega
              have x5 : (b : Int) ≤ w32 (I 40 0 q - (n : Int)) := by rw [w32_eq (by omega) (by omega)]; omega
              have l1 : (a : Int) + n ≤ ((lenP r : Nat) : Int) := by unfold lenP; split <;> omega
              have l2 : (b : Int) + n ≤ ((lenP q : Nat) : Int) := by unfold lenP; split <;> omega
              have a0 : (0 : Int) ≤ a := by omega
              have b0 : (0 : Int) ≤ b := by omega
              refine ⟨1, up2 I 29 q (cpF (I 29 r) (I 29 q) a b n), J, cpR (up2 I 29 q (cpF (I 29 r) (I 29 q) a b n)) (40 * r + a) (40 * q + b) 0 n, J, fun d Q hQ => ?_, fun d Q hQ => ?_, ?_⟩
              · simp only [b_C_copy_0, b_C_copy_4, b_C_copy_7, b_C_copy_11, b_C_copy_14, b_C_copy_16, b_C_copy_21, b_C_copy_26, b_C_copy_27, b_C_copy_33, b_C_copy_36, b_C_copy_39, b_C_copy_45, b_C_copy_48, b_C_copy_51, b_C_copy_56, b_C_copy_57, b_C_copy_63, b_C_copy_69, b_C_copy_72, b_C_copy_78, b_C_copy_85, b_C_copy_88, b_C_copy_93, b_C_copy_94, b_C_copy_100, b_C_copy_110, b_C_copy_120, s_C_isRow, s_R_isMissing, s_R_hasPlaces (I := I) (i0 := r) (by omega) (by omega), s_R_hasPlaces (I := I) (i0 := q) (by omega) (by omega), c1, c2, u, v, l1, l2, a0, b0, hn, r0, r5, r6, q0, q5, q6, i10, ap_s, ap_n, and_self, and_true, true_and, if_true, if_false, not_true_eq_false, not_false_eq_true, Int.toNat_natCast]
                exact hQ
              · simp only [b_D_copy_0, b_D_copy_4, b_D_copy_7, b_D_copy_11, b_D_copy_14, b_D_copy_16, b_D_copy_21, b_D_copy_26, b_D_copy_27, b_D_copy_33, b_D_copy_36, b_D_copy_42, b_D_copy_45, b_D_copy_50, b_D_copy_51, b_D_copy_55, b_D_copy_60, b_D_copy_67, b_D_copy_74, b_D_copy_80, b_D_copy_88, b_D_copy_94, b_D_copy_99, s_D_isRow, show (up2 I 29 q (cpF (I 29 r) (I 29 q) a b n)) 40 = I 40 from rfl, d1, d2, x1, x2, x3, x4, x5, hn, r0, r5, r6, q0, q5, q6, i10, ap_s, ap_n, and_self, and_true, true_and, if_true, if_false, not_true_eq_false, not_false_eq_true, Int.toNat_natCast]
                exact (s_D_copyL (by omega) (by omega) (by omega) (by omega)).mpr hQ
              · refine inv_R h (show q < 6 by omega) (n := I 28 q 1) (by omega) (fun t i p a1 a2 a3 a4 a5 a6 => ?_) h.2.2.2.2.2.2.1 rfl g1 (fun p hp => ?_)
                · simp only [cpR, rd_up2]
                  refine ifc (fun c => ?_) (fun c => ?_)
                  · exfalso; omega
                  · rw [if_neg (by omega)]
                · simp only [cpR, rd_up2, cpF, show ((29 : Nat) = 41) = False from by decide, show ((41 : Nat) = 29) = False from by decide, false_and, true_and, and_self, if_true, if_false, Nat.add_zero]
                  by_cases c : b ≤ p ∧ p < b + n
                  · rw [if_pos c, if_pos (by omega), k4 _ (by omega)]
                    congr 1
                    omega
                  · rw [if_neg c, if_neg (by omega), g4 p hp]
            · have x : a < 0 ∨ b < 0 ∨ 40 < n ∨ (0 ≤ a ∧ 0 ≤ b ∧ n ≤ 40 ∧ (I 40 0 r - n < a ∨ I 40 0 q - n < b)) := by omega
              refine op_fd h (f := 2) (by decide) (fun d Q hQ => ?_) (fun d Q hQ => ?_)
              · by_cases c4 : 0 ≤ a ∧ a ≤ I 28 r 1 ∧ n ≤ I 28 r 1 - a
                · have c5 : ¬ (0 ≤ b ∧ b ≤ I 28 q 1 ∧ n ≤ I 28 q 1 - b) := fun y => c3 ⟨c4, y⟩
                  simp only [b_C_copy_0, b_C_copy_4, b_C_copy_7, b_C_copy_11, b_C_copy_14, b_C_copy_16, b_C_copy_21, b_C_copy_26, b_C_copy_27, b_C_copy_33, b_C_copy_36, b_C_copy_39, b_C_copy_45, b_C_copy_48, b_C_copy_51, b_C_copy_56, b_C_copy_57, b_C_copy_63, b_C_copy_69, b_C_copy_72, b_C_copy_78, b_C_copy_85, b_C_copy_88, b_C_copy_93, s_C_isRow, s_R_isMissing, s_R_hasPlaces (I := I) (i0 := r) (by omega) (by omega), s_R_hasPlaces (I := I) (i0 := q) (by omega) (by omega), s_C_fd2, c1, c2, c4, c5, hn, r0, r5, r6, q0, q5, q6, i10, ap_s, ap_n, and_self, and_true, true_and, if_true, if_false, not_true_eq_false, not_false_eq_true, Int.toNat_natCast]
                  exact hQ
                · simp only [b_C_copy_0, b_C_copy_4, b_C_copy_7, b_C_copy_11, b_C_copy_14, b_C_copy_16, b_C_copy_21, b_C_copy_26, b_C_copy_27, b_C_copy_33, b_C_copy_36, b_C_copy_39, b_C_copy_45, b_C_copy_48, b_C_copy_51, b_C_copy_56, b_C_copy_57, b_C_copy_63, b_C_copy_69, b_C_copy_72, b_C_copy_78, b_C_copy_85, b_C_copy_88, b_C_copy_93, s_C_isRow, s_R_isMissing, s_R_hasPlaces (I := I) (i0 := r) (by omega) (by omega), s_C_fd2, c1, c2, c4, hn, r0, r5, r6, q0, q5, q6, i10, ap_s, ap_n, and_self, and_true, true_and, if_true, if_false, not_true_eq_false, not_false_eq_true, Int.toNat_natCast]
                  exact hQ
              · simp only [b_D_copy_0, b_D_copy_4, b_D_copy_7, b_D_copy_11, b_D_copy_14, b_D_copy_16, b_D_copy_21, b_D_copy_26, b_D_copy_27, b_D_copy_33, b_D_copy_36, b_D_copy_42, b_D_copy_45, b_D_copy_50, b_D_copy_51, b_D_copy_55, b_D_copy_60, b_D_copy_67, b_D_copy_74, b_D_copy_80, b_D_copy_88, b_D_copy_94, b_D_copy_99, s_D_isRow, fC40, s_D_fd2, d1, d2, hn, r0, r5, r6, q0, q5, q6, i10, ap_s, ap_n, and_self, and_true, true_and, if_true, if_false, not_true_eq_false, not_false_eq_true, Int.toNat_natCast]
                rcases x with x | x | x | ⟨x1, x2, x3, x⟩
                · rw [if_pos x]; exact hQ
                · (repeat' split) <;> first | exact hQ | (exfalso; omega)
                · (repeat' split) <;> first | exact hQ | (exfalso; omega)
                · rw [if_neg (by omega), if_neg (by omega), if_neg (by omega), w32_eq (x := I 40 0 r - n) (by omega) (by omega), w32_eq (x := I 40 0 q - n) (by omega) (by omega)]
                  split
                  · exact hQ
                  · rw [if_neg (by omega)]; exact hQ
      · refine op_fd h (f := 5) (by decide) (fun d Q hQ => ?_) (fun d Q hQ => ?_)
        · simp only [b_C_copy_0, b_C_copy_4, b_C_copy_7, b_C_copy_11, b_C_copy_14, b_C_copy_16, b_C_copy_21, b_C_copy_26, s_C_isRow, s_C_fd5, r0, r5, r6, q0, q5, q6, hn, i10, ap_s, ap_n, and_self, and_true, true_and, if_true, if_false, not_true_eq_false, not_false_eq_true, Int.toNat_natCast]
          exact hQ
        · simp only [b_D_copy_0, b_D_copy_4, b_D_copy_7, b_D_copy_11, b_D_copy_14, b_D_copy_16, b_D_copy_21, b_D_copy_26, s_D_isRow, s_D_fd5, r0, r5, r6, q0, q5, q6, hn, i10, ap_s, ap_n, and_self, and_true, true_and, if_true, if_false, not_true_eq_false, not_false_eq_true, Int.toNat_natCast]
          exact hQ
    · refine op_no h (-1) (fun d Q hQ => ?_) (fun d Q hQ => ?_)
      · simp only [b_C_copy_0, b_C_copy_4, b_C_copy_7, b_C_copy_11, b_C_copy_14, s_C_isRow, hb, hb2, i10, ap_s, ap_n, and_self, and_true, true_and, if_true, if_false, not_true_eq_false, not_false_eq_true, Int.toNat_natCast]
        exact hQ
      · simp only [b_D_copy_0, b_D_copy_4, b_D_copy_7, b_D_copy_11, b_D_copy_14, s_D_isRow, hb, hb2, i10, ap_s, ap_n, and_self, and_true, true_and, if_true, if_false, not_true_eq_false, not_false_eq_true, Int.toNat_natCast]
        exact hQ
  · refine op_no h (-1) (fun d Q hQ => ?_) (fun d Q hQ => ?_)
    · simp only [b_C_copy_0, b_C_copy_4, b_C_copy_7, b_C_copy_11, b_C_copy_14, s_C_isRow, hb, i10, ap_s, ap_n, and_self, and_true, true_and, if_true, if_false, not_true_eq_false, not_false_eq_true, Int.toNat_natCast]
      exact hQ
    · simp only [b_D_copy_0, b_D_copy_4, b_D_copy_7, b_D_copy_11, b_D_copy_14, s_D_isRow, hb, i10, ap_s, ap_n, and_self, and_true, true_and, if_true, if_false, not_true_eq_false, not_false_eq_true, Int.toNat_natCast]
      exact hQ
end CP
