/-! THE INVARIANT between the class's ints and the reference's -/
theorem rd_up (I : TI) (t i p : Nat) (v : Int) (t' i' p' : Nat) : upI I t i p v t' i' p' = if t' = t ∧ i' = i ∧ p' = p then v else I t' i' p' := by
  unfold upI up2
  by_cases h1 : t' = t
  · subst h1
    by_cases h2 : i' = i
    · subst h2
      by_cases h3 : p' = p
      · subst h3
        simp [upF]
      · simp [upF, h3]
    · simp [h2]
  · simp [h1]
theorem rd_up2 (I : TI) (t i : Nat) (f : Nat → Int) (t' i' p' : Nat) : up2 I t i f t' i' p' = if t' = t ∧ i' = i then f p' else I t' i' p' := by
  unfold up2
  by_cases h1 : t' = t
  · subst h1
    by_cases h2 : i' = i
    · subst h2
      simp
    · simp [h2]
  · simp [h1]
/-- rows: the class's sizes and places, the reference's -/
def iR (a b : Nat → Nat → Int) (c e : Nat → Int) : Prop := ∀ r : Nat, r < 6 → c r = a r 1 ∧ -1 ≤ a r 1 ∧ a r 1 ≤ 40 ∧ ∀ p : Nat, (p : Int) < a r 1 → b r p = e (40 * r + p)
def iT (a b : Nat → Nat → Int) (c e : Nat → Int) : Prop := ∀ t : Nat, t < 4 → c t = a (6 + t) 1 ∧ -1 ≤ a (6 + t) 1 ∧ a (6 + t) 1 ≤ 60 ∧ ∀ p : Nat, (p : Int) < a (6 + t) 1 → b (6 + t) p = e (60 * t + p)
/-- a life out of three things -/
def lf3 (s : Nat → Int) (i : Nat) : Int := 100 * s (1 + 3 * i) + 10 * s (2 + 3 * i) + s (3 + 3 * i)
/-- the reference's 25 numbers are well: things, banks, the number -/
def okS (n : Int) (s : Nat → Int) : Prop := (∀ i : Nat, (i : Int) < n → (0 ≤ s (1 + 3 * i) ∧ s (1 + 3 * i) ≤ 9) ∧ (0 ≤ s (2 + 3 * i) ∧ s (2 + 3 * i) ≤ 9) ∧ (0 ≤ s (3 + 3 * i) ∧ s (3 + 3 * i) ≤ 9) ∧ (s (19 + i) = 0 ∨ s (19 + i) = 1)) ∧ 0 ≤ s 0
/-- a ferry: n passengers, the class's lives, banks, crossing, deeds and its log; the reference's numbers and its book -/
def iF (n : Int) (lf bk : Nat → Int) (cr dd : Int) (dby la ba ca : Nat → Int) (s : Nat → Int) (bo : Nat → Nat → Int) : Prop :=
  okS n s ∧ (∀ i : Nat, (i : Int) < n → lf i = lf3 s i ∧ bk i = s (19 + i)) ∧ cr = s 0 ∧ 0 ≤ dd ∧ dd ≤ 40 ∧ s 0 ≤ dd ∧
  ∀ k : Nat, (k : Int) < dd → okS n (bo k) ∧ bo k 0 ≤ (k : Int) ∧ ∃ b : Nat, dby k = (b : Int) ∧ (b : Int) < n ∧ la k = lf3 (bo k) b ∧ ba k = bo k (19 + b) ∧ ca k = bo k 0 ∧
    ∀ i : Nat, (i : Int) < n → i ≠ b → lf3 (bo k) i = lf3 (if (k : Int) + 1 = dd then s else bo (k + 1)) i ∧ bo k (19 + i) = (if (k : Int) + 1 = dd then s else bo (k + 1)) (19 + i)
def bo0 (f : Nat → Int) (o : Nat) : Nat → Nat → Int := fun k p => f (o + 25 * k + p)
def Inv (I J : TI) : Prop :=
  iR (I 28) (I 29) (I 40 0) (I 41 0) ∧ iT (I 28) (I 29) (I 42 0) (I 43 0) ∧
  (I 20 0 7 = I 39 0 4 ∧ 0 ≤ I 39 0 4 ∧ I 39 0 4 ≤ 6 ∧ (∀ i : Nat, (i : Int) < I 39 0 4 → I 21 0 i = I 45 0 i ∧ 0 ≤ I 45 0 i ∧ I 45 0 i ≤ 5)) ∧
  (I 20 0 9 = I 39 0 9 ∧ iF (I 39 0 4) (I 22 0) (I 23 0) (I 20 0 8) (I 39 0 9) (I 24 0) (I 25 0) (I 26 0) (I 27 0) (I 46 0) (bo0 (I 48 0) 0)) ∧
  (∀ k : Nat, k < 3 → (I 51 0 k = 0 ∧ I 20 (1 + k) 7 = 0) ∨ (I 51 0 k = 1 ∧ 1 ≤ I 39 0 4 ∧ I 20 (1 + k) 7 = I 39 0 4 ∧ (∀ i : Nat, (i : Int) < I 39 0 4 → I 21 (1 + k) i = I 45 0 i) ∧ I 20 (1 + k) 9 = I 50 0 (1026 * k) ∧
    iF (I 39 0 4) (I 22 (1 + k)) (I 23 (1 + k)) (I 20 (1 + k) 8) (I 50 0 (1026 * k)) (I 24 (1 + k)) (I 25 (1 + k)) (I 26 (1 + k)) (I 27 (1 + k)) (fun p => I 50 0 (1026 * k + 1 + p)) (bo0 (I 50 0) (1026 * k + 26)))) ∧
  (I 0 0 5 = I 39 0 15 ∧ I 0 0 6 = I 39 0 12 ∧ (∀ f : Nat, f < 6 → I 5 0 f = I 56 0 f) ∧ J 0 0 7 = J 39 0 13 ∧ J 0 0 8 = J 39 0 14)
/-- one call of the class and the same call of the reference: one answer, the invariant again -/
def OpI (M1 M2 : Nat) (l1 l2 : ALs) (sc : SC) (I J : TI) : Prop := ∃ (v : Int) (I1 J1 I2 J2 : TI), (∀ d Q, Q (some (vi v)) (MM sc I1 J1) → X (d + 20) M1 0 l1 [] (MM sc I J) Q) ∧ (∀ d Q, Q (some (vi v)) (MM sc I2 J2) → X (d + 20) M2 0 l2 [] (MM sc I1 J1) Q) ∧ Inv I2 J2
def OpL (M1 M2 : Nat) (l1 l2 : ALs) (sc : SC) (I J : TI) : Prop := ∃ (v : Int) (I1 J1 I2 J2 : TI), (∀ d Q, Q (some (vl v)) (MM sc I1 J1) → X (d + 20) M1 0 l1 [] (MM sc I J) Q) ∧ (∀ d Q, Q (some (vl v)) (MM sc I2 J2) → X (d + 20) M2 0 l2 [] (MM sc I1 J1) Q) ∧ Inv I2 J2
section SCL
variable {d : Nat} {Q : Option AV → AMem → Prop} {sc : SC} {I J : TI}
theorem op_asked (h : Inv I J) : OpI m_C_asked m_D_asked [some (vr 0 0)] [some (vr 39 0)] sc I J := by
  refine ⟨I 0 0 6, I, J, I, J, fun d Q hQ => ?_, fun d Q hQ => ?_, h⟩
  · simp only [b_C_asked_0]; exact hQ
  · simp only [b_D_asked_0]; rw [← h.2.2.2.2.2.2.1]; exact hQ
theorem op_finding (h : Inv I J) : OpI m_C_finding m_D_finding [some (vr 0 0)] [some (vr 39 0)] sc I J := by
  refine ⟨I 0 0 5, I, J, I, J, fun d Q hQ => ?_, fun d Q hQ => ?_, h⟩
  · simp only [b_C_finding_0]; exact hQ
  · simp only [b_D_finding_0]; rw [← h.2.2.2.2.2.1]; exact hQ
theorem op_upper (h : Inv I J) : OpL m_C_upper m_D_upper [some (vr 0 0)] [some (vr 39 0)] sc I J := by
  refine ⟨J 0 0 7, I, J, I, J, fun d Q hQ => ?_, fun d Q hQ => ?_, h⟩
  · simp only [b_C_upper_0]; exact hQ
  · simp only [b_D_upper_0]; rw [← h.2.2.2.2.2.2.2.2.1]; exact hQ
theorem op_lower (h : Inv I J) : OpL m_C_lower m_D_lower [some (vr 0 0)] [some (vr 39 0)] sc I J := by
  refine ⟨J 0 0 8, I, J, I, J, fun d Q hQ => ?_, fun d Q hQ => ?_, h⟩
  · simp only [b_C_lower_0]; exact hQ
  · simp only [b_D_lower_0]; rw [← h.2.2.2.2.2.2.2.2.2]; exact hQ
theorem s_D_in {v a b : Int} : X d m_D_in 0 [some (vi v), some (vi a), some (vi b)] [] (MM sc I J) Q ↔ Q (some (vi (if a ≤ v ∧ v ≤ b then 1 else 0))) (MM sc I J) := by
  simp only [b_D_in_0, b_D_in_5, b_D_in_10, b_D_in_14, b_D_in_15]
  (repeat' split) <;> first | (simp; done) | (exfalso; omega)
theorem s_D_isRow {r : Int} : X (d + 1) m_D_isRow 0 [some (vi r)] [] (MM sc I J) Q ↔ Q (some (vi (if 0 ≤ r ∧ r ≤ 5 then 1 else 0))) (MM sc I J) := by
  simp only [b_D_isRow_0, b_D_isRow_6, s_D_in, ap_s]
  by_cases h : 0 ≤ r ∧ r ≤ 5 <;> simp [h]
theorem s_D_isText {r : Int} : X (d + 1) m_D_isText 0 [some (vi r)] [] (MM sc I J) Q ↔ Q (some (vi (if 0 ≤ r ∧ r ≤ 3 then 1 else 0))) (MM sc I J) := by
  simp only [b_D_isText_0, b_D_isText_6, s_D_in, ap_s]
  by_cases h : 0 ≤ r ∧ r ≤ 3 <;> simp [h]
theorem s_C_isRow {r : Int} : X d m_C_isRow 0 [some (vi r)] [] (MM sc I J) Q ↔ Q (some (vi (if 0 ≤ r ∧ r ≤ 5 then 1 else 0))) (MM sc I J) := by
  simp only [b_C_isRow_0, b_C_isRow_4, b_C_isRow_10, b_C_isRow_14, b_C_isRow_15]
  (repeat' split) <;> first | (simp; done) | (exfalso; omega)
theorem s_C_isText {r : Int} : X d m_C_isText 0 [some (vi r)] [] (MM sc I J) Q ↔ Q (some (vi (if 0 ≤ r ∧ r ≤ 3 then 1 else 0))) (MM sc I J) := by
  simp only [b_C_isText_0, b_C_isText_4, b_C_isText_9, b_C_isText_13, b_C_isText_14]
  (repeat' split) <;> first | (simp; done) | (exfalso; omega)
theorem s_C_isPlaceKept {r : Int} : X d m_C_isPlaceKept 0 [some (vi r)] [] (MM sc I J) Q ↔ Q (some (vi (if 0 ≤ r ∧ r ≤ 2 then 1 else 0))) (MM sc I J) := by
  simp only [b_C_isPlaceKept_0, b_C_isPlaceKept_4, b_C_isPlaceKept_9, b_C_isPlaceKept_13, b_C_isPlaceKept_14]
  (repeat' split) <;> first | (simp; done) | (exfalso; omega)
theorem s_C_isDeclaration {r : Int} : X d m_C_isDeclaration 0 [some (vi r)] [] (MM sc I J) Q ↔ Q (some (vi (if 0 ≤ r ∧ r ≤ 6 then 1 else 0))) (MM sc I J) := by
  simp only [b_C_isDeclaration_0, b_C_isDeclaration_4, b_C_isDeclaration_10, b_C_isDeclaration_14, b_C_isDeclaration_15]
  (repeat' split) <;> first | (simp; done) | (exfalso; omega)
theorem s_C_isPassenger {i : Int} : X d m_C_isPassenger 0 [some (vr 0 0), some (vi i)] [] (MM sc I J) Q ↔ Q (some (vi (if 0 ≤ i ∧ i < I 20 0 7 then 1 else 0))) (MM sc I J) := by
  simp only [b_C_isPassenger_0, b_C_isPassenger_4, b_C_isPassenger_15, b_C_isPassenger_19, b_C_isPassenger_20]
  (repeat' split) <;> first | (simp; done) | (exfalso; omega)
theorem s_D_isOne {i : Int} (h : 0 ≤ I 39 0 4) (h2 : I 39 0 4 ≤ 6) : X (d + 1) m_D_isOne 0 [some (vr 39 0), some (vi i)] [] (MM sc I J) Q ↔ Q (some (vi (if 0 ≤ i ∧ i < I 39 0 4 then 1 else 0))) (MM sc I J) := by
  simp only [b_D_isOne_0, b_D_isOne_11, s_D_in, ap_s]
  rw [w32_eq (by omega) (by omega)]
  (repeat' split) <;> first | (simp; done) | (exfalso; omega)
/-- a finding is answered -/
def fdC (I : TI) (f : Nat) : TI := upI (upI I 0 0 5 (f : Int)) 5 0 f (w32 (I 5 0 f + 1))
def fdD (I : TI) (f : Nat) : TI := upI (upI I 39 0 15 (f : Int)) 56 0 f (w32 (I 56 0 f + 1))
theorem s_C_answerFinding {f : Nat} (hf : f < 6) : X d m_C_answerFinding 0 [some (vr 0 0), some (vi (f : Int))] [] (MM sc I J) Q ↔ Q (some (vi (-3))) (MM sc (fdC I f) J) := by
  have h1 : (0 : Int) ≤ f ∧ (f : Int) < 6 := by omega
  simp only [b_C_answerFinding_0, b_C_answerFinding_5, b_C_answerFinding_12, b_C_answerFinding_15, h1, and_self, true_and, Int.toNat_natCast]
  exact Iff.rfl
theorem s_D_found {f : Nat} (hf : f < 6) : X d m_D_found 0 [some (vr 39 0), some (vi (f : Int))] [] (MM sc I J) Q ↔ Q (some (vi (-3))) (MM sc (fdD I f) J) := by
  have h1 : (0 : Int) ≤ f ∧ (f : Int) < 6 := by omega
  simp only [b_D_found_0, b_D_found_5, b_D_found_12, b_D_found_15, h1, and_self, true_and, Int.toNat_natCast]
  exact Iff.rfl
theorem inv_found (h : Inv I J) {f : Nat} (hf : f < 6) : Inv (fdD (fdC I f) f) J := by
  obtain ⟨h1, h2, h3, h4, h5, h6⟩ := h
  refine ⟨h1, h2, h3, h4, h5, ?_⟩
  obtain ⟨a1, a2, a3, a4, a5⟩ := h6
  refine ⟨by simp [fdD, fdC, rd_up], by simp [fdD, fdC, rd_up, a2], fun g hg => ?_, a4, a5⟩
  simp only [fdD, fdC, rd_up]
  by_cases hgf : g = f
  · subst hgf
    simp [a3 g hg]
  · simp [hgf, a3 g hg]
end SCL
