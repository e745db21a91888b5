/-! ROWS AND TEXTS -/
theorem w8_shift (x : Int) : i_shr (i_shl x 24) 24 = w8 x := by
  have e : (Int32.ofInt 24 &&& 31) = 24 := by decide
  unfold i_shr i_shl
  rw [Int32.ofInt_toInt, e]
  show ((BitVec.ofInt 32 x <<< (24#32).toNat).sshiftRight' (24#32)).toInt = w8 x
  rw [BitVec.toInt_sshiftRight', BitVec.toInt_shiftLeft, BitVec.toNat_ofInt, Int.shiftRight_eq_div_pow]
  show (Int.bmod (((x % (4294967296 : Nat)).toNat : Int) <<< 24) 4294967296) / ((16777216 : Nat) : Int) = Int.bmod x 256
  rw [Int.shiftLeft_eq, Int.bmod_def, Int.bmod_def]
  omega
theorem i10 : ((1 : Int) = 0) = False := by decide
def flI (I : TI) (t0 i0 a b : Nat) (v : Int) : TI := fun t i p => if t = t0 ∧ i = i0 ∧ a ≤ p ∧ p < b then v else I t i p
theorem fl_step {I : TI} {t0 i0 a b : Nat} {v : Int} (h : a < b) : flI (upI I t0 i0 a v) t0 i0 (a + 1) b v = flI I t0 i0 a b v := by
  funext t i p
  simp only [flI, rd_up]
  (repeat' split) <;> first | rfl | (exfalso; omega)
theorem fl_nil {I : TI} {t0 i0 a b : Nat} {v : Int} (h : b ≤ a) : flI I t0 i0 a b v = I := by
  funext t i p
  simp only [flI]
  split <;> first | rfl | (exfalso; omega)
theorem wsuc {k : Nat} (h : k ≤ 100000) : w32 ((k : Int) + 1) = ((k + 1 : Nat) : Int) := by rw [w32_eq (by omega) (by omega)]; omega
theorem lenP_le (i : Nat) : lenP i ≤ 60 := by unfold lenP; split <;> omega
section RW
variable {d : Nat} {Q : Option AV → AMem → Prop} {sc : SC} {I J : TI}
theorem op_fd (h : Inv I J) {f : Nat} (hf : f < 6) {M1 M2 : Nat} {l1 l2 : ALs} (h1 : ∀ d Q, Q (some (vi (-3))) (MM sc (fdC I f) J) → X (d + 20) M1 0 l1 [] (MM sc I J) Q) (h2 : ∀ d Q, Q (some (vi (-3))) (MM sc (fdD (fdC I f) f) J) → X (d + 20) M2 0 l2 [] (MM sc (fdC I f) J) Q) : OpI M1 M2 l1 l2 sc I J := ⟨-3, fdC I f, J, fdD (fdC I f) f, J, h1, h2, inv_found h hf⟩
theorem op_no (h : Inv I J) (v : Int) {M1 M2 : Nat} {l1 l2 : ALs} (h1 : ∀ d Q, Q (some (vi v)) (MM sc I J) → X (d + 20) M1 0 l1 [] (MM sc I J) Q) (h2 : ∀ d Q, Q (some (vi v)) (MM sc I J) → X (d + 20) M2 0 l2 [] (MM sc I J) Q) : OpI M1 M2 l1 l2 sc I J := ⟨v, I, J, I, J, h1, h2, h⟩
theorem s_C_fd1 : X d m_C_answerFinding 0 [some (vr 0 0), some (vi 1)] [] (MM sc I J) Q ↔ Q (some (vi (-3))) (MM sc (fdC I 1) J) := s_C_answerFinding (f := 1) (by decide)
theorem s_C_fd2 : X d m_C_answerFinding 0 [some (vr 0 0), some (vi 2)] [] (MM sc I J) Q ↔ Q (some (vi (-3))) (MM sc (fdC I 2) J) := s_C_answerFinding (f := 2) (by decide)
theorem s_C_fd3 : X d m_C_answerFinding 0 [some (vr 0 0), some (vi 3)] [] (MM sc I J) Q ↔ Q (some (vi (-3))) (MM sc (fdC I 3) J) := s_C_answerFinding (f := 3) (by decide)
theorem s_C_fd4 : X d m_C_answerFinding 0 [some (vr 0 0), some (vi 4)] [] (MM sc I J) Q ↔ Q (some (vi (-3))) (MM sc (fdC I 4) J) := s_C_answerFinding (f := 4) (by decide)
theorem s_C_fd5 : X d m_C_answerFinding 0 [some (vr 0 0), some (vi 5)] [] (MM sc I J) Q ↔ Q (some (vi (-3))) (MM sc (fdC I 5) J) := s_C_answerFinding (f := 5) (by decide)
theorem s_D_fd1 : X d m_D_found 0 [some (vr 39 0), some (vi 1)] [] (MM sc I J) Q ↔ Q (some (vi (-3))) (MM sc (fdD I 1) J) := s_D_found (f := 1) (by decide)
theorem s_D_fd2 : X d m_D_found 0 [some (vr 39 0), some (vi 2)] [] (MM sc I J) Q ↔ Q (some (vi (-3))) (MM sc (fdD I 2) J) := s_D_found (f := 2) (by decide)
theorem s_D_fd3 : X d m_D_found 0 [some (vr 39 0), some (vi 3)] [] (MM sc I J) Q ↔ Q (some (vi (-3))) (MM sc (fdD I 3) J) := s_D_found (f := 3) (by decide)
theorem s_D_fd4 : X d m_D_found 0 [some (vr 39 0), some (vi 4)] [] (MM sc I J) Q ↔ Q (some (vi (-3))) (MM sc (fdD I 4) J) := s_D_found (f := 4) (by decide)
theorem s_D_fd5 : X d m_D_found 0 [some (vr 39 0), some (vi 5)] [] (MM sc I J) Q ↔ Q (some (vi (-3))) (MM sc (fdD I 5) J) := s_D_found (f := 5) (by decide)
theorem fC39 {f : Nat} : fdC I f 39 = I 39 := rfl
theorem fC40 {f : Nat} : fdC I f 40 = I 40 := rfl
theorem fC41 {f : Nat} : fdC I f 41 = I 41 := rfl
theorem fC42 {f : Nat} : fdC I f 42 = I 42 := rfl
theorem fC43 {f : Nat} : fdC I f 43 = I 43 := rfl
theorem s_D_tells {v a : Int} : X d m_D_tells 0 [some (vr 39 0), some (vi v), some (vi a)] [] (MM sc I J) Q ↔ Q (some (vi a)) (MM sc (upI I 39 0 12 v) J) := by
  simp only [b_D_tells_0, b_D_tells_5]
theorem op_findings (h : Inv I J) (f : Int) : OpI m_C_findings m_D_findings [some (vr 0 0), some (vi f)] [some (vr 39 0), some (vi f)] sc I J := by
  by_cases h1 : 1 ≤ f ∧ f ≤ 5
  · obtain ⟨a, b⟩ := h1
    obtain ⟨f, rfl⟩ := Int.eq_ofNat_of_zero_le (show 0 ≤ f by omega)
    have e1 : ¬ (f : Int) < 1 := by omega
    have e2 : (0 : Int) ≤ f ∧ (f : Int) < 6 := by omega
    refine op_no h (I 5 0 f) (fun d Q hQ => ?_) (fun d Q hQ => ?_)
    · simp only [b_C_findings_0, b_C_findings_5, b_C_findings_10, b_C_findings_12, b_C_findings_18, e1, b, e2, i10, ap_s, ap_n, and_self, and_true, true_and, if_true, if_false, not_true_eq_false, not_false_eq_true, Int.toNat_natCast]
      exact hQ
    · simp only [b_D_findings_0, b_D_findings_6, b_D_findings_9, b_D_findings_15, b_D_findings_18, b_D_findings_19, s_D_in, a, b, e2, i10, ap_s, ap_n, and_self, and_true, true_and, if_true, if_false, not_true_eq_false, not_false_eq_true, Int.toNat_natCast]
      rw [h.2.2.2.2.2.2.2.1 f (by omega)] at hQ
      exact hQ
  · refine op_no h (-1) (fun d Q hQ => ?_) (fun d Q hQ => ?_)
    · simp only [b_C_findings_0, b_C_findings_5, b_C_findings_10, b_C_findings_12, b_C_findings_18]
      (repeat' split) <;> first | exact hQ | (exfalso; omega)
    · simp only [b_D_findings_0, b_D_findings_6, b_D_findings_9, b_D_findings_15, b_D_findings_18, b_D_findings_19, s_D_in, h1, i10, ap_s, ap_n, and_self, and_true, true_and, if_true, if_false, not_true_eq_false, not_false_eq_true, Int.toNat_natCast]
      exact hQ
theorem s_R_isMissing {i0 : Nat} : X d m_R_isMissing 0 [some (vr 28 i0)] [] (MM sc I J) Q ↔ Q (some (vi (if I 28 i0 1 < 0 then 1 else 0))) (MM sc I J) := by
  simp only [b_R_isMissing_0, b_R_isMissing_7, b_R_isMissing_11, b_R_isMissing_12]
  (repeat' split) <;> first | (simp; done) | (exfalso; omega)
theorem s_R_hasPlaces {i0 : Nat} {a b : Int} (h1 : -1 ≤ I 28 i0 1) (h2 : I 28 i0 1 ≤ 60) : X d m_R_hasPlaces 0 [some (vr 28 i0), some (vi a), some (vi b)] [] (MM sc I J) Q ↔ Q (some (vi (if 0 ≤ a ∧ a ≤ I 28 i0 1 ∧ b ≤ I 28 i0 1 - a then 1 else 0))) (MM sc I J) := by
  simp only [b_R_hasPlaces_0, b_R_hasPlaces_4, b_R_hasPlaces_12, b_R_hasPlaces_22, b_R_hasPlaces_26, b_R_hasPlaces_27]
  by_cases c1 : a < 0
  · have q1 : ¬ (0 ≤ a) := by omega
    simp [c1, q1]
  · by_cases c2 : I 28 i0 1 < a
    · have q1 : ¬ (a ≤ I 28 i0 1) := by omega
      simp [c1, c2, q1]
    · rw [w32_eq (by omega) (by omega)]
      simp only [c1, c2, if_false]
      (repeat' split) <;> first | (simp; done) | (exfalso; omega)
theorem l_R_renew {i0 n : Nat} {v : Int} (hn : n ≤ lenP i0) : ∀ (m k : Nat) (I : TI), k + m = n → (X d m_R_renew 15 [some (vr 28 i0), some (vi (n : Int)), some (vi v), some (vi (k : Int))] [] (MM sc I J) Q ↔ X d m_R_renew 33 [some (vr 28 i0), some (vi (n : Int)), some (vi v), some (vi (n : Int))] [] (MM sc (flI I 29 i0 k n v) J) Q)
  | 0, k, I, e => by
    have e1 : k = n := by omega
    subst e1
    rw [fl_nil (Nat.le_refl _), b_R_renew_15, if_pos (Int.le_refl _)]
  | m + 1, k, I, e => by
    have hl := lenP_le i0
    have c1 : ¬ ((n : Int) ≤ k) := by omega
    have c2 : 0 ≤ (k : Int) ∧ (k : Int) < ((lenP i0 : Nat) : Int) := by omega
    rw [b_R_renew_15, if_neg c1, b_R_renew_20, and_iff_right c2, b_R_renew_27, Int.toNat_natCast, wsuc (by omega), l_R_renew hn m (k + 1) _ (by omega), fl_step (by omega)]
def rnI (I : TI) (i0 n : Nat) (v : Int) : TI := upI (flI I 29 i0 0 n v) 28 i0 1 n
theorem s_R_renew {i0 n : Nat} {v : Int} (hn : n ≤ lenP i0) : X d m_R_renew 0 [some (vr 28 i0), some (vi (n : Int)), some (vi v), none] [] (MM sc I J) Q ↔ Q none (MM sc (rnI I i0 n v) J) := by
  have c1 : ¬ ((n : Int) < 0) := by omega
  have c2 : ¬ (((lenP i0 : Nat) : Int) < (n : Int)) := by omega
  rw [b_R_renew_0, if_neg c1, b_R_renew_4, if_neg c2, b_R_renew_13]
  have := l_R_renew (d := d) (Q := Q) (sc := sc) (J := J) (v := v) hn n 0 I (by omega)
  rw [show ((0 : Nat) : Int) = 0 from rfl] at this
  rw [this, b_R_renew_33, b_R_renew_38]
  exact Iff.rfl
theorem l_D_makesRow {r n : Nat} (hr : r < 6) (hn : n ≤ 40) : ∀ (m k : Nat) (I : TI), k + m = n → (X d m_D_makesRow 9 [some (vr 39 0), some (vi (r : Int)), some (vi (n : Int)), some (vi (k : Int))] [] (MM sc I J) Q ↔ Q none (MM sc (flI I 41 0 (40 * r + k) (40 * r + n) 0) J))
  | 0, k, I, e => by
    have e1 : k = n := by omega
    subst e1
    rw [fl_nil (Nat.le_refl _), b_D_makesRow_9, if_pos (Int.le_refl _), b_D_makesRow_32]
  | m + 1, k, I, e => by
    have c1 : ¬ ((n : Int) ≤ k) := by omega
    have e1 : w32 (w32 (40 * (r : Int)) + (k : Int)) = ((40 * r + k : Nat) : Int) := by rw [w32_eq (x := 40 * (r : Int)) (by omega) (by omega), w32_eq (by omega) (by omega)]; omega
    have c2 : 0 ≤ ((40 * r + k : Nat) : Int) ∧ ((40 * r + k : Nat) : Int) < 240 := by omega
    rw [b_D_makesRow_9, if_neg c1, b_D_makesRow_14, e1, and_iff_right c2, b_D_makesRow_26, Int.toNat_natCast, wsuc (by omega), l_D_makesRow hr hn m (k + 1) _ (by omega)]
    have := fl_step (I := I) (t0 := 41) (i0 := 0) (a := 40 * r + k) (b := 40 * r + n) (v := 0) (by omega)
    rw [show 40 * r + (k + 1) = 40 * r + k + 1 from rfl, this]
def dmI (I : TI) (r n : Nat) : TI := flI (upI I 40 0 r n) 41 0 (40 * r) (40 * r + n) 0
theorem s_D_makesRow {r n : Nat} (hr : r < 6) (hn : n ≤ 40) : X d m_D_makesRow 0 [some (vr 39 0), some (vi (r : Int)), some (vi (n : Int)), none] [] (MM sc I J) Q ↔ Q none (MM sc (dmI I r n) J) := by
  have c1 : 0 ≤ (r : Int) ∧ (r : Int) < 6 := by omega
  rw [b_D_makesRow_0, and_iff_right c1, b_D_makesRow_7, Int.toNat_natCast]
  exact l_D_makesRow hr hn n 0 _ (by omega)
theorem l_D_text {r n : Nat} (hr : r < 4) (hn : n ≤ 60) : ∀ (m k : Nat) (I : TI), k + m = n → (X d m_D_text 34 [some (vr 39 0), some (vi (r : Int)), some (vi (n : Int)), some (vi (k : Int))] [] (MM sc I J) Q ↔ Q (some (vi (n : Int))) (MM sc (flI I 43 0 (60 * r + k) (60 * r + n) 32) J))
  | 0, k, I, e => by
    have e1 : k = n := by omega
    subst e1
    rw [fl_nil (Nat.le_refl _), b_D_text_34, if_pos (Int.le_refl _), b_D_text_58]
  | m + 1, k, I, e => by
    have c1 : ¬ ((n : Int) ≤ k) := by omega
    have e1 : w32 (w32 (60 * (r : Int)) + (k : Int)) = ((60 * r + k : Nat) : Int) := by rw [w32_eq (x := 60 * (r : Int)) (by omega) (by omega), w32_eq (by omega) (by omega)]; omega
    have c2 : 0 ≤ ((60 * r + k : Nat) : Int) ∧ ((60 * r + k : Nat) : Int) < 240 := by omega
    rw [b_D_text_34, if_neg c1, b_D_text_39, e1, and_iff_right c2, b_D_text_52, Int.toNat_natCast, wsuc (by omega), l_D_text hr hn m (k + 1) _ (by omega)]
    have := fl_step (I := I) (t0 := 43) (i0 := 0) (a := 60 * r + k) (b := 60 * r + n) (v := 32) (by omega)
    rw [show 60 * r + (k + 1) = 60 * r + k + 1 from rfl, this]
/-- a row of the class and of the reference are made anew -/
theorem inv_R {I' : TI} (h : Inv I J) {r : Nat} (hr : r < 6) {n : Int} (hn : -1 ≤ n ∧ n ≤ 40) (fr : ∀ t i p : Nat, (t = 0 → p ≠ 6) → (t = 39 → p ≠ 12) → (t = 28 → i = r → p ≠ 1) → (t = 29 → i ≠ r) → (t = 40 → p ≠ r) → (t = 41 → p < 40 * r ∨ 40 * r + 40 ≤ p) → I' t i p = I t i p) (ha : I' 0 0 6 = I' 39 0 12) (h28 : I' 28 r 1 = n) (h40 : I' 40 0 r = n) (hp : ∀ p : Nat, (p : Int) < n → I' 29 r p = I' 41 0 (40 * r + p)) : Inv I' J := by
  have ft : ∀ t : Nat, t ≠ 0 → t ≠ 39 → t ≠ 28 → t ≠ 29 → t ≠ 40 → t ≠ 41 → I' t = I t := fun t h1 h2 h3 h4 h5 h6 => by
    funext i p
    exact fr t i p (by omega) (by omega) (by omega) (by omega) (by omega) (by omega)
  obtain ⟨g1, g2, g3, g4, g5, g6⟩ := h
  have f1 : ∀ p, p ≠ 12 → I' 39 0 p = I 39 0 p := fun p hp => fr 39 0 p (by omega) (by omega) (by omega) (by omega) (by omega) (by omega)
  have f2 : ∀ p, p ≠ 6 → I' 0 0 p = I 0 0 p := fun p hp => fr 0 0 p (by omega) (by omega) (by omega) (by omega) (by omega) (by omega)
  refine ⟨?_, ?_, ?_, ?_, ?_, ?_⟩
  · intro q hq
    by_cases e : q = r
    · subst e
      exact ⟨by rw [h28, h40], by omega, by omega, fun p hpp => hp p (by omega)⟩
    · have := g1 q hq
      rw [fr 40 0 q (by omega) (by omega) (by omega) (by omega) (by omega) (by omega), fr 28 q 1 (by omega) (by omega) (by omega) (by omega) (by omega) (by omega)]
      refine ⟨this.1, this.2.1, this.2.2.1, fun p hpp => ?_⟩
      rw [fr 29 q p (by omega) (by omega) (by omega) (by omega) (by omega) (by omega), fr 41 0 (40 * q + p) (by omega) (by omega) (by omega) (by omega) (by omega) (by omega)]
      exact this.2.2.2 p hpp
  · intro q hq
    have := g2 q hq
    rw [ft 42 (by omega) (by omega) (by omega) (by omega) (by omega) (by omega), ft 43 (by omega) (by omega) (by omega) (by omega) (by omega) (by omega), fr 28 (6 + q) 1 (by omega) (by omega) (by omega) (by omega) (by omega) (by omega)]
    refine ⟨this.1, this.2.1, this.2.2.1, fun p hpp => ?_⟩
    rw [fr 29 (6 + q) p (by omega) (by omega) (by omega) (by omega) (by omega) (by omega)]
    exact this.2.2.2 p hpp
  · rw [f1 4 (by omega), ft 20 (by omega) (by omega) (by omega) (by omega) (by omega) (by omega), ft 21 (by omega) (by omega) (by omega) (by omega) (by omega) (by omega), ft 45 (by omega) (by omega) (by omega) (by omega) (by omega) (by omega)]
    exact g3
  · rw [f1 4 (by omega), f1 9 (by omega), ft 20 (by omega) (by omega) (by omega) (by omega) (by omega) (by omega), ft 22 (by omega) (by omega) (by omega) (by omega) (by omega) (by omega), ft 23 (by omega) (by omega) (by omega) (by omega) (by omega) (by omega), ft 24 (by omega) (by omega) (by omega) (by omega) (by omega) (by omega), ft 25 (by omega) (by omega) (by omega) (by omega) (by omega) (by omega), ft 26 (by omega) (by omega) (by omega) (by omega) (by omega) (by omega), ft 27 (by omega) (by omega) (by omega) (by omega) (by omega) (by omega), ft 46 (by omega) (by omega) (by omega) (by omega) (by omega) (by omega), ft 48 (by omega) (by omega) (by omega) (by omega) (by omega) (by omega)]
    exact g4
  · rw [f1 4 (by omega), ft 20 (by omega) (by omega) (by omega) (by omega) (by omega) (by omega), ft 21 (by omega) (by omega) (by omega) (by omega) (by omega) (by omega), ft 22 (by omega) (by omega) (by omega) (by omega) (by omega) (by omega), ft 23 (by omega) (by omega) (by omega) (by omega) (by omega) (by omega), ft 24 (by omega) (by omega) (by omega) (by omega) (by omega) (by omega), ft 25 (by omega) (by omega) (by omega) (by omega) (by omega) (by omega), ft 26 (by omega) (by omega) (by omega) (by omega) (by omega) (by omega), ft 27 (by omega) (by omega) (by omega) (by omega) (by omega) (by omega), ft 45 (by omega) (by omega) (by omega) (by omega) (by omega) (by omega), ft 50 (by omega) (by omega) (by omega) (by omega) (by omega) (by omega), ft 51 (by omega) (by omega) (by omega) (by omega) (by omega) (by omega)]
    exact g5
  · rw [f1 15 (by omega), f2 5 (by omega), ha, ft 5 (by omega) (by omega) (by omega) (by omega) (by omega) (by omega), ft 56 (by omega) (by omega) (by omega) (by omega) (by omega) (by omega)]
    exact ⟨g6.1, rfl, g6.2.2⟩
theorem op_row (h : Inv I J) (r n : Int) : OpI m_C_row m_D_row [some (vr 0 0), some (vi r), some (vi n)] [some (vr 39 0), some (vi r), some (vi n)] sc I J := by
  by_cases hb : (0 ≤ r ∧ r ≤ 5) ∧ n ≤ 40
  · obtain ⟨⟨r0, r5⟩, n40⟩ := hb
    obtain ⟨r, rfl⟩ := Int.eq_ofNat_of_zero_le r0
    have r6 : (r : Int) < 6 := by omega
    by_cases hn : 0 ≤ n
    · obtain ⟨n, rfl⟩ := Int.eq_ofNat_of_zero_le hn
      refine ⟨n, rnI I r n 0, J, dmI (rnI I r n 0) r n, J, fun d Q hQ => ?_, fun d Q hQ => ?_, ?_⟩
      · simp only [b_C_row_0, b_C_row_4, b_C_row_7, b_C_row_13, b_C_row_15, b_C_row_19, b_C_row_24, b_C_row_25, b_C_row_31, b_C_row_36, s_C_isRow, s_R_renew (show n ≤ lenP r by unfold lenP; split <;> omega), r0, r5, r6, n40, hn, i10, ap_s, ap_n, and_self, and_true, true_and, if_true, if_false, not_true_eq_false, not_false_eq_true, Int.toNat_natCast]
        exact hQ
      · simp only [b_D_row_0, b_D_row_4, b_D_row_7, b_D_row_13, b_D_row_15, b_D_row_19, b_D_row_24, b_D_row_25, b_D_row_31, s_D_isRow, s_D_makesRow (show r < 6 by omega) (show n ≤ 40 by omega), r0, r5, r6, n40, hn, i10, ap_s, ap_n, and_self, and_true, true_and, if_true, if_false, not_true_eq_false, not_false_eq_true, Int.toNat_natCast]
        exact hQ
      · refine inv_R h (show r < 6 by omega) (n := n) (by omega) (fun t i p a1 a2 a3 a4 a5 a6 => ?_) h.2.2.2.2.2.2.1 ?_ ?_ (fun p hp => ?_)
        · simp only [dmI, rnI, flI, rd_up]
          (repeat' split) <;> first | rfl | (exfalso; omega)
        · simp [dmI, rnI, flI, rd_up]
        · simp [dmI, rnI, flI, rd_up]
        · have : p < n := by omega
          simp [dmI, rnI, flI, rd_up, this]
    · refine op_fd h (f := 5) (by decide) (fun d Q hQ => ?_) (fun d Q hQ => ?_)
      · simp only [b_C_row_0, b_C_row_4, b_C_row_7, b_C_row_13, b_C_row_15, b_C_row_19, b_C_row_24, b_C_row_25, b_C_row_31, b_C_row_36, s_C_isRow, s_C_fd5, r0, r5, r6, n40, hn, i10, ap_s, ap_n, and_self, and_true, true_and, if_true, if_false, not_true_eq_false, not_false_eq_true, Int.toNat_natCast]
        exact hQ
      · simp only [b_D_row_0, b_D_row_4, b_D_row_7, b_D_row_13, b_D_row_15, b_D_row_19, b_D_row_24, b_D_row_25, b_D_row_31, s_D_isRow, s_D_fd5, r0, r5, r6, n40, hn, i10, ap_s, ap_n, and_self, and_true, true_and, if_true, if_false, not_true_eq_false, not_false_eq_true, Int.toNat_natCast]
        exact hQ
  · refine op_no h (-1) (fun d Q hQ => ?_) (fun d Q hQ => ?_)
    · simp only [b_C_row_0, b_C_row_4, b_C_row_7, b_C_row_13, s_C_isRow, i10, ap_s, ap_n, and_self, and_true, true_and, if_true, if_false, not_true_eq_false, not_false_eq_true, Int.toNat_natCast]
      by_cases q : 0 ≤ r ∧ r ≤ 5
      · have q2 : ¬ n ≤ 40 := by omega
        simp only [q, q2, i10, ap_s, ap_n, and_self, and_true, true_and, if_true, if_false, not_true_eq_false, not_false_eq_true, Int.toNat_natCast]
        exact hQ
      · simp only [q, i10, ap_s, ap_n, and_self, and_true, true_and, if_true, if_false, not_true_eq_false, not_false_eq_true, Int.toNat_natCast]
        exact hQ
    · simp only [b_D_row_0, b_D_row_4, b_D_row_7, b_D_row_13, s_D_isRow, i10, ap_s, ap_n, and_self, and_true, true_and, if_true, if_false, not_true_eq_false, not_false_eq_true, Int.toNat_natCast]
      by_cases q : 0 ≤ r ∧ r ≤ 5
      · have q2 : ¬ n ≤ 40 := by omega
        simp only [q, q2, i10, ap_s, ap_n, and_self, and_true, true_and, if_true, if_false, not_true_eq_false, not_false_eq_true, Int.toNat_natCast]
        exact hQ
      · simp only [q, i10, ap_s, ap_n, and_self, and_true, true_and, if_true, if_false, not_true_eq_false, not_false_eq_true, Int.toNat_natCast]
        exact hQ
end RW
