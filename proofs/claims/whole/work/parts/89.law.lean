/-! THE LAW: its cases, its loop -/
theorem lc_self (x : Int) : l_cmp x x = 0 := by
  unfold l_cmp
  rw [if_neg (Int.lt_irrefl x), if_pos rfl]
theorem ite_x {c : Prop} [Decidable c] {a b : Prop} (h1 : c → a) (h2 : ¬ c → b) : if c then a else b := by
  by_cases h : c
  · rw [if_pos h]; exact h1 h
  · rw [if_neg h]; exact h2 h
theorem wad {k j : Nat} (h : k + j ≤ 100000) : w32 ((k : Int) + (j : Int)) = ((k + j : Nat) : Int) := by rw [w32_eq (by omega) (by omega)]; omega
section LA
variable {d : Nat} {Q : Option AV → AMem → Prop} {sc : SC} {I J : TI}
theorem lw_row (h : Inv I J) {k : Nat} (hk : k + 6 ≤ sc.1) (hL : sc.1 ≤ 3072) (hQ : ∀ I2 J2, Inv I2 J2 → X (d + 21) m_W_law 1394 [some (vr 99 0), some (vr 0 0), some (vr 39 0), some (vi (k : Int))] [] (MM sc I2 J2) Q) : X (d + 21) m_W_law 204 [some (vr 99 0), some (vr 0 0), some (vr 39 0), some (vi (k : Int))] [] (MM sc I J) Q := by
  have c1 : 0 ≤ ((k + 1 : Nat) : Int) ∧ ((k + 1 : Nat) : Int) < (sc.1 : Int) := by omega
  have c2 : 0 ≤ ((k + 2 : Nat) : Int) ∧ ((k + 2 : Nat) : Int) < (sc.1 : Int) := by omega
  have e1 : w32 ((k : Int) + 1) = ((k + 1 : Nat) : Int) := wad (j := 1) (Nat.le_trans (Nat.add_le_add_left (show 1 ≤ 6 by decide) k) (Nat.le_trans hk (Nat.le_trans hL (by decide))))
  have e2 : w32 ((k : Int) + 2) = ((k + 2 : Nat) : Int) := wad (j := 2) (Nat.le_trans (Nat.add_le_add_left (show 2 ≤ 6 by decide) k) (Nat.le_trans hk (Nat.le_trans hL (by decide))))
  obtain ⟨v, P, hC, hD⟩ := opW_I (op_row (sc := sc) h (sc.2 (k + 1)) (sc.2 (k + 2)))
  rw [b_W_law_204, e1, and_iff_right c1, Int.toNat_natCast, b_W_law_210, e2, and_iff_right c2, Int.toNat_natCast, b_W_law_215]
  refine hC d _ (fun I1 J1 hP => ?_)
  rw [ap_s, b_W_law_218, e1, and_iff_right c1, Int.toNat_natCast, b_W_law_224, e2, and_iff_right c2, Int.toNat_natCast, b_W_law_229]
  refine hD I1 J1 hP d _ (fun I2 J2 h2 => ?_)
  rw [ap_s, b_W_law_232, if_pos rfl]
  exact hQ I2 J2 h2
theorem lw_lay (h : Inv I J) {k : Nat} (hk : k + 6 ≤ sc.1) (hL : sc.1 ≤ 3072) (hQ : ∀ I2 J2, Inv I2 J2 → X (d + 21) m_W_law 1394 [some (vr 99 0), some (vr 0 0), some (vr 39 0), some (vi (k : Int))] [] (MM sc I2 J2) Q) : X (d + 21) m_W_law 237 [some (vr 99 0), some (vr 0 0), some (vr 39 0), some (vi (k : Int))] [] (MM sc I J) Q := by
  have c1 : 0 ≤ ((k + 1 : Nat) : Int) ∧ ((k + 1 : Nat) : Int) < (sc.1 : Int) := by omega
  have c2 : 0 ≤ ((k + 2 : Nat) : Int) ∧ ((k + 2 : Nat) : Int) < (sc.1 : Int) := by omega
  have c3 : 0 ≤ ((k + 3 : Nat) : Int) ∧ ((k + 3 : Nat) : Int) < (sc.1 : Int) := by omega
  have e1 : w32 ((k : Int) + 1) = ((k + 1 : Nat) : Int) := wad (j := 1) (Nat.le_trans (Nat.add_le_add_left (show 1 ≤ 6 by decide) k) (Nat.le_trans hk (Nat.le_trans hL (by decide))))
  have e2 : w32 ((k : Int) + 2) = ((k + 2 : Nat) : Int) := wad (j := 2) (Nat.le_trans (Nat.add_le_add_left (show 2 ≤ 6 by decide) k) (Nat.le_trans hk (Nat.le_trans hL (by decide))))
  have e3 : w32 ((k : Int) + 3) = ((k + 3 : Nat) : Int) := wad (j := 3) (Nat.le_trans (Nat.add_le_add_left (show 3 ≤ 6 by decide) k) (Nat.le_trans hk (Nat.le_trans hL (by decide))))
  obtain ⟨v, P, hC, hD⟩ := opW_I (op_lay (sc := sc) h (sc.2 (k + 1)) (sc.2 (k + 2)) (sc.2 (k + 3)))
  rw [b_W_law_237, e1, and_iff_right c1, Int.toNat_natCast, b_W_law_243, e2, and_iff_right c2, Int.toNat_natCast, b_W_law_248, e3, and_iff_right c3, Int.toNat_natCast, b_W_law_253]
  refine hC d _ (fun I1 J1 hP => ?_)
  rw [ap_s, b_W_law_256, e1, and_iff_right c1, Int.toNat_natCast, b_W_law_262, e2, and_iff_right c2, Int.toNat_natCast, b_W_law_267, e3, and_iff_right c3, Int.toNat_natCast, b_W_law_272]
  refine hD I1 J1 hP d _ (fun I2 J2 h2 => ?_)
  rw [ap_s, b_W_law_275, if_pos rfl]
  exact hQ I2 J2 h2
theorem lw_at (h : Inv I J) {k : Nat} (hk : k + 6 ≤ sc.1) (hL : sc.1 ≤ 3072) (hQ : ∀ I2 J2, Inv I2 J2 → X (d + 21) m_W_law 1394 [some (vr 99 0), some (vr 0 0), some (vr 39 0), some (vi (k : Int))] [] (MM sc I2 J2) Q) : X (d + 21) m_W_law 280 [some (vr 99 0), some (vr 0 0), some (vr 39 0), some (vi (k : Int))] [] (MM sc I J) Q := by
  have c1 : 0 ≤ ((k + 1 : Nat) : Int) ∧ ((k + 1 : Nat) : Int) < (sc.1 : Int) := by omega
  have c2 : 0 ≤ ((k + 2 : Nat) : Int) ∧ ((k + 2 : Nat) : Int) < (sc.1 : Int) := by omega
  have e1 : w32 ((k : Int) + 1) = ((k + 1 : Nat) : Int) := wad (j := 1) (Nat.le_trans (Nat.add_le_add_left (show 1 ≤ 6 by decide) k) (Nat.le_trans hk (Nat.le_trans hL (by decide))))
  have e2 : w32 ((k : Int) + 2) = ((k + 2 : Nat) : Int) := wad (j := 2) (Nat.le_trans (Nat.add_le_add_left (show 2 ≤ 6 by decide) k) (Nat.le_trans hk (Nat.le_trans hL (by decide))))
  obtain ⟨v, P, hC, hD⟩ := opW_I (op_at (sc := sc) h (sc.2 (k + 1)) (sc.2 (k + 2)))
  rw [b_W_law_280, e1, and_iff_right c1, Int.toNat_natCast, b_W_law_286, e2, and_iff_right c2, Int.toNat_natCast, b_W_law_291]
  refine hC d _ (fun I1 J1 hP => ?_)
  rw [ap_s, b_W_law_294, e1, and_iff_right c1, Int.toNat_natCast, b_W_law_300, e2, and_iff_right c2, Int.toNat_natCast, b_W_law_305]
  refine hD I1 J1 hP d _ (fun I2 J2 h2 => ?_)
  rw [ap_s, b_W_law_308, if_pos rfl]
  exact hQ I2 J2 h2
theorem lw_tear (h : Inv I J) {k : Nat} (hk : k + 6 ≤ sc.1) (hL : sc.1 ≤ 3072) (hQ : ∀ I2 J2, Inv I2 J2 → X (d + 21) m_W_law 1394 [some (vr 99 0), some (vr 0 0), some (vr 39 0), some (vi (k : Int))] [] (MM sc I2 J2) Q) : X (d + 21) m_W_law 313 [some (vr 99 0), some (vr 0 0), some (vr 39 0), some (vi (k : Int))] [] (MM sc I J) Q := by
  have c1 : 0 ≤ ((k + 1 : Nat) : Int) ∧ ((k + 1 : Nat) : Int) < (sc.1 : Int) := by omega
  have e1 : w32 ((k : Int) + 1) = ((k + 1 : Nat) : Int) := wad (j := 1) (Nat.le_trans (Nat.add_le_add_left (show 1 ≤ 6 by decide) k) (Nat.le_trans hk (Nat.le_trans hL (by decide))))
  obtain ⟨v, P, hC, hD⟩ := opW_I (op_tear (sc := sc) h (sc.2 (k + 1)))
  rw [b_W_law_313, e1, and_iff_right c1, Int.toNat_natCast, b_W_law_319]
  refine hC d _ (fun I1 J1 hP => ?_)
  rw [ap_s, b_W_law_322, e1, and_iff_right c1, Int.toNat_natCast, b_W_law_328]
  refine hD I1 J1 hP d _ (fun I2 J2 h2 => ?_)
  rw [ap_s, b_W_law_331, if_pos rfl]
  exact hQ I2 J2 h2
theorem lw_copy (h : Inv I J) {k : Nat} (hk : k + 6 ≤ sc.1) (hL : sc.1 ≤ 3072) (hQ : ∀ I2 J2, Inv I2 J2 → X (d + 21) m_W_law 1394 [some (vr 99 0), some (vr 0 0), some (vr 39 0), some (vi (k : Int))] [] (MM sc I2 J2) Q) : X (d + 21) m_W_law 336 [some (vr 99 0), some (vr 0 0), some (vr 39 0), some (vi (k : Int))] [] (MM sc I J) Q := by
  have c1 : 0 ≤ ((k + 1 : Nat) : Int) ∧ ((k + 1 : Nat) : Int) < (sc.1 : Int) := by omega
  have c2 : 0 ≤ ((k + 2 : Nat) : Int) ∧ ((k + 2 : Nat) : Int) < (sc.1 : Int) := by omega
  have c3 : 0 ≤ ((k + 3 : Nat) : Int) ∧ ((k + 3 : Nat) : Int) < (sc.1 : Int) := by omega
  have c4 : 0 ≤ ((k + 4 : Nat) : Int) ∧ ((k + 4 : Nat) : Int) < (sc.1 : Int) := by omega
  have c5 : 0 ≤ ((k + 5 : Nat) : Int) ∧ ((k + 5 : Nat) : Int) < (sc.1 : Int) := by omega
  have e1 : w32 ((k : Int) + 1) = ((k + 1 : Nat) : Int) := wad (j := 1) (Nat.le_trans (Nat.add_le_add_left (show 1 ≤ 6 by decide) k) (Nat.le_trans hk (Nat.le_trans hL (by decide))))
  have e2 : w32 ((k : Int) + 2) = ((k + 2 : Nat) : Int) := wad (j := 2) (Nat.le_trans (Nat.add_le_add_left (show 2 ≤ 6 by decide) k) (Nat.le_trans hk (Nat.le_trans hL (by decide))))
  have e3 : w32 ((k : Int) + 3) = ((k + 3 : Nat) : Int) := wad (j := 3) (Nat.le_trans (Nat.add_le_add_left (show 3 ≤ 6 by decide) k) (Nat.le_trans hk (Nat.le_trans hL (by decide))))
  have e4 : w32 ((k : Int) + 4) = ((k + 4 : Nat) : Int) := wad (j := 4) (Nat.le_trans (Nat.add_le_add_left (show 4 ≤ 6 by decide) k) (Nat.le_trans hk (Nat.le_trans hL (by decide))))
  have e5 : w32 ((k : Int) + 5) = ((k + 5 : Nat) : Int) := wad (j := 5) (Nat.le_trans (Nat.add_le_add_left (show 5 ≤ 6 by decide) k) (Nat.le_trans hk (Nat.le_trans hL (by decide))))
  obtain ⟨v, P, hC, hD⟩ := opW_I (op_copy (sc := sc) h (sc.2 (k + 1)) (sc.2 (k + 2)) (sc.2 (k + 3)) (sc.2 (k + 4)) (sc.2 (k + 5)))
  rw [b_W_law_336, e1, and_iff_right c1, Int.toNat_natCast, b_W_law_342, e2, and_iff_right c2, Int.toNat_natCast, b_W_law_347, e3, and_iff_right c3, Int.toNat_natCast, b_W_law_352, e4, and_iff_right c4, Int.toNat_natCast, b_W_law_357, e5, and_iff_right c5, Int.toNat_natCast, b_W_law_362]
  refine hC d _ (fun I1 J1 hP => ?_)
  rw [ap_s, b_W_law_365, e1, and_iff_right c1, Int.toNat_natCast, b_W_law_371, e2, and_iff_right c2, Int.toNat_natCast, b_W_law_376, e3, and_iff_right c3, Int.toNat_natCast, b_W_law_381, e4, and_iff_right c4, Int.toNat_natCast, b_W_law_386, e5, and_iff_right c5, Int.toNat_natCast, b_W_law_391]
  refine hD I1 J1 hP d _ (fun I2 J2 h2 => ?_)
  rw [ap_s, b_W_law_394, if_pos rfl]
  exact hQ I2 J2 h2
theorem lw_mean (h : Inv I J) {k : Nat} (hk : k + 6 ≤ sc.1) (hL : sc.1 ≤ 3072) (hQ : ∀ I2 J2, Inv I2 J2 → X (d + 21) m_W_law 1394 [some (vr 99 0), some (vr 0 0), some (vr 39 0), some (vi (k : Int))] [] (MM sc I2 J2) Q) : X (d + 21) m_W_law 399 [some (vr 99 0), some (vr 0 0), some (vr 39 0), some (vi (k : Int))] [] (MM sc I J) Q := by
  have c1 : 0 ≤ ((k + 1 : Nat) : Int) ∧ ((k + 1 : Nat) : Int) < (sc.1 : Int) := by omega
  have e1 : w32 ((k : Int) + 1) = ((k + 1 : Nat) : Int) := wad (j := 1) (Nat.le_trans (Nat.add_le_add_left (show 1 ≤ 6 by decide) k) (Nat.le_trans hk (Nat.le_trans hL (by decide))))
  obtain ⟨v, P, hC, hD⟩ := opW_I (op_mean (sc := sc) h (sc.2 (k + 1)))
  rw [b_W_law_399, e1, and_iff_right c1, Int.toNat_natCast, b_W_law_405]
  refine hC d _ (fun I1 J1 hP => ?_)
  rw [ap_s, b_W_law_408, e1, and_iff_right c1, Int.toNat_natCast, b_W_law_414]
  refine hD I1 J1 hP d _ (fun I2 J2 h2 => ?_)
  rw [ap_s, b_W_law_417, if_pos rfl]
  exact hQ I2 J2 h2
theorem lw_text (h : Inv I J) {k : Nat} (hk : k + 6 ≤ sc.1) (hL : sc.1 ≤ 3072) (hQ : ∀ I2 J2, Inv I2 J2 → X (d + 21) m_W_law 1394 [some (vr 99 0), some (vr 0 0), some (vr 39 0), some (vi (k : Int))] [] (MM sc I2 J2) Q) : X (d + 21) m_W_law 422 [some (vr 99 0), some (vr 0 0), some (vr 39 0), some (vi (k : Int))] [] (MM sc I J) Q := by
  have c1 : 0 ≤ ((k + 1 : Nat) : Int) ∧ ((k + 1 : Nat) : Int) < (sc.1 : Int) := by omega
  have c2 : 0 ≤ ((k + 2 : Nat) : Int) ∧ ((k + 2 : Nat) : Int) < (sc.1 : Int) := by omega
  have e1 : w32 ((k : Int) + 1) = ((k + 1 : Nat) : Int) := wad (j := 1) (Nat.le_trans (Nat.add_le_add_left (show 1 ≤ 6 by decide) k) (Nat.le_trans hk (Nat.le_trans hL (by decide))))
  have e2 : w32 ((k : Int) + 2) = ((k + 2 : Nat) : Int) := wad (j := 2) (Nat.le_trans (Nat.add_le_add_left (show 2 ≤ 6 by decide) k) (Nat.le_trans hk (Nat.le_trans hL (by decide))))
  obtain ⟨v, P, hC, hD⟩ := opW_I (op_text (sc := sc) h (sc.2 (k + 1)) (sc.2 (k + 2)))
  rw [b_W_law_422, e1, and_iff_right c1, Int.toNat_natCast, b_W_law_428, e2, and_iff_right c2, Int.toNat_natCast, b_W_law_433]
  refine hC d _ (fun I1 J1 hP => ?_)
  rw [ap_s, b_W_law_436, e1, and_iff_right c1, Int.toNat_natCast, b_W_law_442, e2, and_iff_right c2, Int.toNat_natCast, b_W_law_447]
  refine hD I1 J1 hP d _ (fun I2 J2 h2 => ?_)
  rw [ap_s, b_W_law_450, if_pos rfl]
  exact hQ I2 J2 h2
theorem lw_put (h : Inv I J) {k : Nat} (hk : k + 6 ≤ sc.1) (hL : sc.1 ≤ 3072) (hQ : ∀ I2 J2, Inv I2 J2 → X (d + 21) m_W_law 1394 [some (vr 99 0), some (vr 0 0), some (vr 39 0), some (vi (k : Int))] [] (MM sc I2 J2) Q) : X (d + 21) m_W_law 455 [some (vr 99 0), some (vr 0 0), some (vr 39 0), some (vi (k : Int))] [] (MM sc I J) Q := by
  have c1 : 0 ≤ ((k + 1 : Nat) : Int) ∧ ((k + 1 : Nat) : Int) < (sc.1 : Int) := by omega
  have c2 : 0 ≤ ((k + 2 : Nat) : Int) ∧ ((k + 2 : Nat) : Int) < (sc.1 : Int) := by omega
  have c3 : 0 ≤ ((k + 3 : Nat) : Int) ∧ ((k + 3 : Nat) : Int) < (sc.1 : Int) := by omega
  have e1 : w32 ((k : Int) + 1) = ((k + 1 : Nat) : Int) := wad (j := 1) (Nat.le_trans (Nat.add_le_add_left (show 1 ≤ 6 by decide) k) (Nat.le_trans hk (Nat.le_trans hL (by decide))))
  have e2 : w32 ((k : Int) + 2) = ((k + 2 : Nat) : Int) := wad (j := 2) (Nat.le_trans (Nat.add_le_add_left (show 2 ≤ 6 by decide) k) (Nat.le_trans hk (Nat.le_trans hL (by decide))))
  have e3 : w32 ((k : Int) + 3) = ((k + 3 : Nat) : Int) := wad (j := 3) (Nat.le_trans (Nat.add_le_add_left (show 3 ≤ 6 by decide) k) (Nat.le_trans hk (Nat.le_trans hL (by decide))))
  obtain ⟨v, P, hC, hD⟩ := opW_I (op_put (sc := sc) h (sc.2 (k + 1)) (sc.2 (k + 2)) (sc.2 (k + 3)))
  rw [b_W_law_455, e1, and_iff_right c1, Int.toNat_natCast, b_W_law_461, e2, and_iff_right c2, Int.toNat_natCast, b_W_law_466, e3, and_iff_right c3, Int.toNat_natCast, b_W_law_471]
  refine hC d _ (fun I1 J1 hP => ?_)
  rw [ap_s, b_W_law_474, e1, and_iff_right c1, Int.toNat_natCast, b_W_law_480, e2, and_iff_right c2, Int.toNat_natCast, b_W_law_485, e3, and_iff_right c3, Int.toNat_natCast, b_W_law_490]
  refine hD I1 J1 hP d _ (fun I2 J2 h2 => ?_)
  rw [ap_s, b_W_law_493, if_pos rfl]
  exact hQ I2 J2 h2
theorem lw_fault (h : Inv I J) {k : Nat} (hk : k + 6 ≤ sc.1) (hL : sc.1 ≤ 3072) (hQ : ∀ I2 J2, Inv I2 J2 → X (d + 21) m_W_law 1394 [some (vr 99 0), some (vr 0 0), some (vr 39 0), some (vi (k : Int))] [] (MM sc I2 J2) Q) : X (d + 21) m_W_law 498 [some (vr 99 0), some (vr 0 0), some (vr 39 0), some (vi (k : Int))] [] (MM sc I J) Q := by
  have c1 : 0 ≤ ((k + 1 : Nat) : Int) ∧ ((k + 1 : Nat) : Int) < (sc.1 : Int) := by omega
  have e1 : w32 ((k : Int) + 1) = ((k + 1 : Nat) : Int) := wad (j := 1) (Nat.le_trans (Nat.add_le_add_left (show 1 ≤ 6 by decide) k) (Nat.le_trans hk (Nat.le_trans hL (by decide))))
  obtain ⟨v, P, hC, hD⟩ := opW_I (op_fault (sc := sc) h (sc.2 (k + 1)))
  rw [b_W_law_498, e1, and_iff_right c1, Int.toNat_natCast, b_W_law_504]
  refine hC d _ (fun I1 J1 hP => ?_)
  rw [ap_s, b_W_law_507, e1, and_iff_right c1, Int.toNat_natCast, b_W_law_513]
  refine hD I1 J1 hP d _ (fun I2 J2 h2 => ?_)
  rw [ap_s, b_W_law_516, if_pos rfl]
  exact hQ I2 J2 h2
theorem lw_ferry (h : Inv I J) {k : Nat} (hk : k + 6 ≤ sc.1) (hL : sc.1 ≤ 3072) (hQ : ∀ I2 J2, Inv I2 J2 → X (d + 21) m_W_law 1394 [some (vr 99 0), some (vr 0 0), some (vr 39 0), some (vi (k : Int))] [] (MM sc I2 J2) Q) : X (d + 21) m_W_law 521 [some (vr 99 0), some (vr 0 0), some (vr 39 0), some (vi (k : Int))] [] (MM sc I J) Q := by
  have c1 : 0 ≤ ((k + 1 : Nat) : Int) ∧ ((k + 1 : Nat) : Int) < (sc.1 : Int) := by omega
  have e1 : w32 ((k : Int) + 1) = ((k + 1 : Nat) : Int) := wad (j := 1) (Nat.le_trans (Nat.add_le_add_left (show 1 ≤ 6 by decide) k) (Nat.le_trans hk (Nat.le_trans hL (by decide))))
  obtain ⟨v, P, hC, hD⟩ := opW_I (op_ferry (sc := sc) h (sc.2 (k + 1)))
  rw [b_W_law_521, e1, and_iff_right c1, Int.toNat_natCast, b_W_law_527]
  refine hC d _ (fun I1 J1 hP => ?_)
  rw [ap_s, b_W_law_530, e1, and_iff_right c1, Int.toNat_natCast, b_W_law_536]
  refine hD I1 J1 hP d _ (fun I2 J2 h2 => ?_)
  rw [ap_s, b_W_law_539, if_pos rfl]
  exact hQ I2 J2 h2
theorem lw_passenger (h : Inv I J) {k : Nat} (hk : k + 6 ≤ sc.1) (hL : sc.1 ≤ 3072) (hQ : ∀ I2 J2, Inv I2 J2 → X (d + 21) m_W_law 1394 [some (vr 99 0), some (vr 0 0), some (vr 39 0), some (vi (k : Int))] [] (MM sc I2 J2) Q) : X (d + 21) m_W_law 544 [some (vr 99 0), some (vr 0 0), some (vr 39 0), some (vi (k : Int))] [] (MM sc I J) Q := by
  have c1 : 0 ≤ ((k + 1 : Nat) : Int) ∧ ((k + 1 : Nat) : Int) < (sc.1 : Int) := by omega
  have c2 : 0 ≤ ((k + 2 : Nat) : Int) ∧ ((k + 2 : Nat) : Int) < (sc.1 : Int) := by omega
  have e1 : w32 ((k : Int) + 1) = ((k + 1 : Nat) : Int) := wad (j := 1) (Nat.le_trans (Nat.add_le_add_left (show 1 ≤ 6 by decide) k) (Nat.le_trans hk (Nat.le_trans hL (by decide))))
  have e2 : w32 ((k : Int) + 2) = ((k + 2 : Nat) : Int) := wad (j := 2) (Nat.le_trans (Nat.add_le_add_left (show 2 ≤ 6 by decide) k) (Nat.le_trans hk (Nat.le_trans hL (by decide))))
  obtain ⟨v, P, hC, hD⟩ := opW_I (op_passenger (sc := sc) h (sc.2 (k + 1)) (sc.2 (k + 2)))
  rw [b_W_law_544, e1, and_iff_right c1, Int.toNat_natCast, b_W_law_550, e2, and_iff_right c2, Int.toNat_natCast, b_W_law_555]
  refine hC d _ (fun I1 J1 hP => ?_)
  rw [ap_s, b_W_law_558, e1, and_iff_right c1, Int.toNat_natCast, b_W_law_564, e2, and_iff_right c2, Int.toNat_natCast, b_W_law_569]
  refine hD I1 J1 hP d _ (fun I2 J2 h2 => ?_)
  rw [ap_s, b_W_law_572, if_pos rfl]
  exact hQ I2 J2 h2
theorem lw_mark (h : Inv I J) {k : Nat} (hk : k + 6 ≤ sc.1) (hL : sc.1 ≤ 3072) (hQ : ∀ I2 J2, Inv I2 J2 → X (d + 21) m_W_law 1394 [some (vr 99 0), some (vr 0 0), some (vr 39 0), some (vi (k : Int))] [] (MM sc I2 J2) Q) : X (d + 21) m_W_law 577 [some (vr 99 0), some (vr 0 0), some (vr 39 0), some (vi (k : Int))] [] (MM sc I J) Q := by
  have c1 : 0 ≤ ((k + 1 : Nat) : Int) ∧ ((k + 1 : Nat) : Int) < (sc.1 : Int) := by omega
  have c2 : 0 ≤ ((k + 2 : Nat) : Int) ∧ ((k + 2 : Nat) : Int) < (sc.1 : Int) := by omega
  have e1 : w32 ((k : Int) + 1) = ((k + 1 : Nat) : Int) := wad (j := 1) (Nat.le_trans (Nat.add_le_add_left (show 1 ≤ 6 by decide) k) (Nat.le_trans hk (Nat.le_trans hL (by decide))))
  have e2 : w32 ((k : Int) + 2) = ((k + 2 : Nat) : Int) := wad (j := 2) (Nat.le_trans (Nat.add_le_add_left (show 2 ≤ 6 by decide) k) (Nat.le_trans hk (Nat.le_trans hL (by decide))))
  obtain ⟨v, P, hC, hD⟩ := opW_I (op_mark (sc := sc) h (sc.2 (k + 1)) (sc.2 (k + 2)))
  rw [b_W_law_577, e1, and_iff_right c1, Int.toNat_natCast, b_W_law_583, e2, and_iff_right c2, Int.toNat_natCast, b_W_law_588]
  refine hC d _ (fun I1 J1 hP => ?_)
  rw [ap_s, b_W_law_591, e1, and_iff_right c1, Int.toNat_natCast, b_W_law_597, e2, and_iff_right c2, Int.toNat_natCast, b_W_law_602]
  refine hD I1 J1 hP d _ (fun I2 J2 h2 => ?_)
  rw [ap_s, b_W_law_605, if_pos rfl]
  exact hQ I2 J2 h2
theorem lw_cross (h : Inv I J) {k : Nat} (hk : k + 6 ≤ sc.1) (hL : sc.1 ≤ 3072) (hQ : ∀ I2 J2, Inv I2 J2 → X (d + 21) m_W_law 1394 [some (vr 99 0), some (vr 0 0), some (vr 39 0), some (vi (k : Int))] [] (MM sc I2 J2) Q) : X (d + 21) m_W_law 610 [some (vr 99 0), some (vr 0 0), some (vr 39 0), some (vi (k : Int))] [] (MM sc I J) Q := by
  have c1 : 0 ≤ ((k + 1 : Nat) : Int) ∧ ((k + 1 : Nat) : Int) < (sc.1 : Int) := by omega
  have c2 : 0 ≤ ((k + 2 : Nat) : Int) ∧ ((k + 2 : Nat) : Int) < (sc.1 : Int) := by omega
  have e1 : w32 ((k : Int) + 1) = ((k + 1 : Nat) : Int) := wad (j := 1) (Nat.le_trans (Nat.add_le_add_left (show 1 ≤ 6 by decide) k) (Nat.le_trans hk (Nat.le_trans hL (by decide))))
  have e2 : w32 ((k : Int) + 2) = ((k + 2 : Nat) : Int) := wad (j := 2) (Nat.le_trans (Nat.add_le_add_left (show 2 ≤ 6 by decide) k) (Nat.le_trans hk (Nat.le_trans hL (by decide))))
  obtain ⟨v, P, hC, hD⟩ := opW_I (op_cross (sc := sc) h (sc.2 (k + 1)) (sc.2 (k + 2)))
  rw [b_W_law_610, e1, and_iff_right c1, Int.toNat_natCast, b_W_law_616, e2, and_iff_right c2, Int.toNat_natCast, b_W_law_621]
  refine hC d _ (fun I1 J1 hP => ?_)
  rw [ap_s, b_W_law_624, e1, and_iff_right c1, Int.toNat_natCast, b_W_law_630, e2, and_iff_right c2, Int.toNat_natCast, b_W_law_635]
  refine hD I1 J1 hP d _ (fun I2 J2 h2 => ?_)
  rw [ap_s, b_W_law_638, if_pos rfl]
  exact hQ I2 J2 h2
theorem lw_set (h : Inv I J) {k : Nat} (hk : k + 6 ≤ sc.1) (hL : sc.1 ≤ 3072) (hQ : ∀ I2 J2, Inv I2 J2 → X (d + 21) m_W_law 1394 [some (vr 99 0), some (vr 0 0), some (vr 39 0), some (vi (k : Int))] [] (MM sc I2 J2) Q) : X (d + 21) m_W_law 643 [some (vr 99 0), some (vr 0 0), some (vr 39 0), some (vi (k : Int))] [] (MM sc I J) Q := by
  have c1 : 0 ≤ ((k + 1 : Nat) : Int) ∧ ((k + 1 : Nat) : Int) < (sc.1 : Int) := by omega
  have c2 : 0 ≤ ((k + 2 : Nat) : Int) ∧ ((k + 2 : Nat) : Int) < (sc.1 : Int) := by omega
  have c3 : 0 ≤ ((k + 3 : Nat) : Int) ∧ ((k + 3 : Nat) : Int) < (sc.1 : Int) := by omega
  have e1 : w32 ((k : Int) + 1) = ((k + 1 : Nat) : Int) := wad (j := 1) (Nat.le_trans (Nat.add_le_add_left (show 1 ≤ 6 by decide) k) (Nat.le_trans hk (Nat.le_trans hL (by decide))))
  have e2 : w32 ((k : Int) + 2) = ((k + 2 : Nat) : Int) := wad (j := 2) (Nat.le_trans (Nat.add_le_add_left (show 2 ≤ 6 by decide) k) (Nat.le_trans hk (Nat.le_trans hL (by decide))))
  have e3 : w32 ((k : Int) + 3) = ((k + 3 : Nat) : Int) := wad (j := 3) (Nat.le_trans (Nat.add_le_add_left (show 3 ≤ 6 by decide) k) (Nat.le_trans hk (Nat.le_trans hL (by decide))))
  obtain ⟨v, P, hC, hD⟩ := opW_I (op_set (sc := sc) h (sc.2 (k + 1)) (sc.2 (k + 2)) (sc.2 (k + 3)))
  rw [b_W_law_643, e1, and_iff_right c1, Int.toNat_natCast, b_W_law_649, e2, and_iff_right c2, Int.toNat_natCast, b_W_law_654, e3, and_iff_right c3, Int.toNat_natCast, b_W_law_659]
  refine hC d _ (fun I1 J1 hP => ?_)
  rw [ap_s, b_W_law_662, e1, and_iff_right c1, Int.toNat_natCast, b_W_law_668, e2, and_iff_right c2, Int.toNat_natCast, b_W_law_673, e3, and_iff_right c3, Int.toNat_natCast, b_W_law_678]
  refine hD I1 J1 hP d _ (fun I2 J2 h2 => ?_)
  rw [ap_s, b_W_law_681, if_pos rfl]
  exact hQ I2 J2 h2
theorem lw_undo (h : Inv I J) {k : Nat} (hk : k + 6 ≤ sc.1) (hL : sc.1 ≤ 3072) (hQ : ∀ I2 J2, Inv I2 J2 → X (d + 21) m_W_law 1394 [some (vr 99 0), some (vr 0 0), some (vr 39 0), some (vi (k : Int))] [] (MM sc I2 J2) Q) : X (d + 21) m_W_law 686 [some (vr 99 0), some (vr 0 0), some (vr 39 0), some (vi (k : Int))] [] (MM sc I J) Q := by
  have c1 : 0 ≤ ((k + 1 : Nat) : Int) ∧ ((k + 1 : Nat) : Int) < (sc.1 : Int) := by omega
  have e1 : w32 ((k : Int) + 1) = ((k + 1 : Nat) : Int) := wad (j := 1) (Nat.le_trans (Nat.add_le_add_left (show 1 ≤ 6 by decide) k) (Nat.le_trans hk (Nat.le_trans hL (by decide))))
  obtain ⟨v, P, hC, hD⟩ := opW_I (op_undo (sc := sc) h (sc.2 (k + 1)))
  rw [b_W_law_686, e1, and_iff_right c1, Int.toNat_natCast, b_W_law_692]
  refine hC d _ (fun I1 J1 hP => ?_)
  rw [ap_s, b_W_law_695, e1, and_iff_right c1, Int.toNat_natCast, b_W_law_701]
  refine hD I1 J1 hP d _ (fun I2 J2 h2 => ?_)
  rw [ap_s, b_W_law_704, if_pos rfl]
  exact hQ I2 J2 h2
theorem lw_keep (h : Inv I J) {k : Nat} (hk : k + 6 ≤ sc.1) (hL : sc.1 ≤ 3072) (hQ : ∀ I2 J2, Inv I2 J2 → X (d + 21) m_W_law 1394 [some (vr 99 0), some (vr 0 0), some (vr 39 0), some (vi (k : Int))] [] (MM sc I2 J2) Q) : X (d + 21) m_W_law 709 [some (vr 99 0), some (vr 0 0), some (vr 39 0), some (vi (k : Int))] [] (MM sc I J) Q := by
  have c1 : 0 ≤ ((k + 1 : Nat) : Int) ∧ ((k + 1 : Nat) : Int) < (sc.1 : Int) := by omega
  have e1 : w32 ((k : Int) + 1) = ((k + 1 : Nat) : Int) := wad (j := 1) (Nat.le_trans (Nat.add_le_add_left (show 1 ≤ 6 by decide) k) (Nat.le_trans hk (Nat.le_trans hL (by decide))))
  obtain ⟨v, P, hC, hD⟩ := opW_I (op_keep (sc := sc) h (sc.2 (k + 1)))
  rw [b_W_law_709, e1, and_iff_right c1, Int.toNat_natCast, b_W_law_715]
  refine hC d _ (fun I1 J1 hP => ?_)
  rw [ap_s, b_W_law_718, e1, and_iff_right c1, Int.toNat_natCast, b_W_law_724]
  refine hD I1 J1 hP d _ (fun I2 J2 h2 => ?_)
  rw [ap_s, b_W_law_727, if_pos rfl]
  exact hQ I2 J2 h2
theorem lw_on (h : Inv I J) {k : Nat} (hk : k + 6 ≤ sc.1) (hL : sc.1 ≤ 3072) (hQ : ∀ I2 J2, Inv I2 J2 → X (d + 21) m_W_law 1394 [some (vr 99 0), some (vr 0 0), some (vr 39 0), some (vi (k : Int))] [] (MM sc I2 J2) Q) : X (d + 21) m_W_law 732 [some (vr 99 0), some (vr 0 0), some (vr 39 0), some (vi (k : Int))] [] (MM sc I J) Q := by
  have c1 : 0 ≤ ((k + 1 : Nat) : Int) ∧ ((k + 1 : Nat) : Int) < (sc.1 : Int) := by omega
  have e1 : w32 ((k : Int) + 1) = ((k + 1 : Nat) : Int) := wad (j := 1) (Nat.le_trans (Nat.add_le_add_left (show 1 ≤ 6 by decide) k) (Nat.le_trans hk (Nat.le_trans hL (by decide))))
  obtain ⟨v, P, hC, hD⟩ := opW_I (op_on (sc := sc) h (sc.2 (k + 1)))
  rw [b_W_law_732, e1, and_iff_right c1, Int.toNat_natCast, b_W_law_738]
  refine hC d _ (fun I1 J1 hP => ?_)
  rw [ap_s, b_W_law_741, e1, and_iff_right c1, Int.toNat_natCast, b_W_law_747]
  refine hD I1 J1 hP d _ (fun I2 J2 h2 => ?_)
  rw [ap_s, b_W_law_750, if_pos rfl]
  exact hQ I2 J2 h2
theorem lw_changes (h : Inv I J) {k : Nat} (hk : k + 6 ≤ sc.1) (hL : sc.1 ≤ 3072) (hQ : ∀ I2 J2, Inv I2 J2 → X (d + 21) m_W_law 1394 [some (vr 99 0), some (vr 0 0), some (vr 39 0), some (vi (k : Int))] [] (MM sc I2 J2) Q) : X (d + 21) m_W_law 755 [some (vr 99 0), some (vr 0 0), some (vr 39 0), some (vi (k : Int))] [] (MM sc I J) Q := by
  have c1 : 0 ≤ ((k + 1 : Nat) : Int) ∧ ((k + 1 : Nat) : Int) < (sc.1 : Int) := by omega
  have c2 : 0 ≤ ((k + 2 : Nat) : Int) ∧ ((k + 2 : Nat) : Int) < (sc.1 : Int) := by omega
  have c3 : 0 ≤ ((k + 3 : Nat) : Int) ∧ ((k + 3 : Nat) : Int) < (sc.1 : Int) := by omega
  have e1 : w32 ((k : Int) + 1) = ((k + 1 : Nat) : Int) := wad (j := 1) (Nat.le_trans (Nat.add_le_add_left (show 1 ≤ 6 by decide) k) (Nat.le_trans hk (Nat.le_trans hL (by decide))))
  have e2 : w32 ((k : Int) + 2) = ((k + 2 : Nat) : Int) := wad (j := 2) (Nat.le_trans (Nat.add_le_add_left (show 2 ≤ 6 by decide) k) (Nat.le_trans hk (Nat.le_trans hL (by decide))))
  have e3 : w32 ((k : Int) + 3) = ((k + 3 : Nat) : Int) := wad (j := 3) (Nat.le_trans (Nat.add_le_add_left (show 3 ≤ 6 by decide) k) (Nat.le_trans hk (Nat.le_trans hL (by decide))))
  obtain ⟨v, P, hC, hD⟩ := opW_I (op_changes (sc := sc) h (sc.2 (k + 1)) (sc.2 (k + 2)) (sc.2 (k + 3)))
  rw [b_W_law_755, e1, and_iff_right c1, Int.toNat_natCast, b_W_law_761, e2, and_iff_right c2, Int.toNat_natCast, b_W_law_766, e3, and_iff_right c3, Int.toNat_natCast, b_W_law_771]
  refine hC d _ (fun I1 J1 hP => ?_)
  rw [ap_s, b_W_law_774, e1, and_iff_right c1, Int.toNat_natCast, b_W_law_780, e2, and_iff_right c2, Int.toNat_natCast, b_W_law_785, e3, and_iff_right c3, Int.toNat_natCast, b_W_law_790]
  refine hD I1 J1 hP d _ (fun I2 J2 h2 => ?_)
  rw [ap_s, b_W_law_793, if_pos rfl]
  exact hQ I2 J2 h2
theorem lw_run (h : Inv I J) {k : Nat} (hk : k + 6 ≤ sc.1) (hL : sc.1 ≤ 3072) (hQ : ∀ I2 J2, Inv I2 J2 → X (d + 21) m_W_law 1394 [some (vr 99 0), some (vr 0 0), some (vr 39 0), some (vi (k : Int))] [] (MM sc I2 J2) Q) : X (d + 21) m_W_law 798 [some (vr 99 0), some (vr 0 0), some (vr 39 0), some (vi (k : Int))] [] (MM sc I J) Q := by
  have c1 : 0 ≤ ((k + 1 : Nat) : Int) ∧ ((k + 1 : Nat) : Int) < (sc.1 : Int) := by omega
  have c2 : 0 ≤ ((k + 2 : Nat) : Int) ∧ ((k + 2 : Nat) : Int) < (sc.1 : Int) := by omega
  have e1 : w32 ((k : Int) + 1) = ((k + 1 : Nat) : Int) := wad (j := 1) (Nat.le_trans (Nat.add_le_add_left (show 1 ≤ 6 by decide) k) (Nat.le_trans hk (Nat.le_trans hL (by decide))))
  have e2 : w32 ((k : Int) + 2) = ((k + 2 : Nat) : Int) := wad (j := 2) (Nat.le_trans (Nat.add_le_add_left (show 2 ≤ 6 by decide) k) (Nat.le_trans hk (Nat.le_trans hL (by decide))))
  obtain ⟨v, P, hC, hD⟩ := op_run (sc := sc) h (sc.2 (k + 1)) (sc.2 (k + 2))
  rw [b_W_law_798, e1, and_iff_right c1, Int.toNat_natCast, b_W_law_804, e2, and_iff_right c2, Int.toNat_natCast, b_W_law_809]
  refine hC d _ (fun I1 J1 hP => ?_)
  rw [ap_s, b_W_law_812, e1, and_iff_right c1, Int.toNat_natCast, b_W_law_818, e2, and_iff_right c2, Int.toNat_natCast, b_W_law_823]
  refine hD I1 J1 hP d _ (fun I2 J2 h2 => ?_)
  rw [ap_s, b_W_law_826, if_pos rfl]
  exact hQ I2 J2 h2
theorem lw_fewest (h : Inv I J) {k : Nat} (hk : k + 6 ≤ sc.1) (hL : sc.1 ≤ 3072) (hQ : ∀ I2 J2, Inv I2 J2 → X (d + 21) m_W_law 1394 [some (vr 99 0), some (vr 0 0), some (vr 39 0), some (vi (k : Int))] [] (MM sc I2 J2) Q) : X (d + 21) m_W_law 831 [some (vr 99 0), some (vr 0 0), some (vr 39 0), some (vi (k : Int))] [] (MM sc I J) Q := by
  have c1 : 0 ≤ ((k + 1 : Nat) : Int) ∧ ((k + 1 : Nat) : Int) < (sc.1 : Int) := by omega
  have c2 : 0 ≤ ((k + 2 : Nat) : Int) ∧ ((k + 2 : Nat) : Int) < (sc.1 : Int) := by omega
  have c3 : 0 ≤ ((k + 3 : Nat) : Int) ∧ ((k + 3 : Nat) : Int) < (sc.1 : Int) := by omega
  have c4 : 0 ≤ ((k + 4 : Nat) : Int) ∧ ((k + 4 : Nat) : Int) < (sc.1 : Int) := by omega
  have e1 : w32 ((k : Int) + 1) = ((k + 1 : Nat) : Int) := wad (j := 1) (Nat.le_trans (Nat.add_le_add_left (show 1 ≤ 6 by decide) k) (Nat.le_trans hk (Nat.le_trans hL (by decide))))
  have e2 : w32 ((k : Int) + 2) = ((k + 2 : Nat) : Int) := wad (j := 2) (Nat.le_trans (Nat.add_le_add_left (show 2 ≤ 6 by decide) k) (Nat.le_trans hk (Nat.le_trans hL (by decide))))
  have e3 : w32 ((k : Int) + 3) = ((k + 3 : Nat) : Int) := wad (j := 3) (Nat.le_trans (Nat.add_le_add_left (show 3 ≤ 6 by decide) k) (Nat.le_trans hk (Nat.le_trans hL (by decide))))
  have e4 : w32 ((k : Int) + 4) = ((k + 4 : Nat) : Int) := wad (j := 4) (Nat.le_trans (Nat.add_le_add_left (show 4 ≤ 6 by decide) k) (Nat.le_trans hk (Nat.le_trans hL (by decide))))
  obtain ⟨v, P, hC, hD⟩ := op_fewest (sc := sc) h (sc.2 (k + 1)) (sc.2 (k + 2)) (sc.2 (k + 3)) (sc.2 (k + 4))
  rw [b_W_law_831, e1, and_iff_right c1, Int.toNat_natCast, b_W_law_837, e2, and_iff_right c2, Int.toNat_natCast, b_W_law_842, e3, and_iff_right c3, Int.toNat_natCast, b_W_law_847, e4, and_iff_right c4, Int.toNat_natCast, b_W_law_852]
  refine hC d _ (fun I1 J1 hP => ?_)
  rw [ap_s, b_W_law_855, e1, and_iff_right c1, Int.toNat_natCast, b_W_law_861, e2, and_iff_right c2, Int.toNat_natCast, b_W_law_866, e3, and_iff_right c3, Int.toNat_natCast, b_W_law_871, e4, and_iff_right c4, Int.toNat_natCast, b_W_law_876]
  refine hD I1 J1 hP d _ (fun I2 J2 h2 => ?_)
  rw [ap_s, b_W_law_879, if_pos rfl]
  exact hQ I2 J2 h2
theorem lw_lives (h : Inv I J) {k : Nat} (hk : k + 6 ≤ sc.1) (hL : sc.1 ≤ 3072) (hQ : ∀ I2 J2, Inv I2 J2 → X (d + 21) m_W_law 1394 [some (vr 99 0), some (vr 0 0), some (vr 39 0), some (vi (k : Int))] [] (MM sc I2 J2) Q) : X (d + 21) m_W_law 884 [some (vr 99 0), some (vr 0 0), some (vr 39 0), some (vi (k : Int))] [] (MM sc I J) Q := by
  have c1 : 0 ≤ ((k + 1 : Nat) : Int) ∧ ((k + 1 : Nat) : Int) < (sc.1 : Int) := by omega
  have c2 : 0 ≤ ((k + 2 : Nat) : Int) ∧ ((k + 2 : Nat) : Int) < (sc.1 : Int) := by omega
  have e1 : w32 ((k : Int) + 1) = ((k + 1 : Nat) : Int) := wad (j := 1) (Nat.le_trans (Nat.add_le_add_left (show 1 ≤ 6 by decide) k) (Nat.le_trans hk (Nat.le_trans hL (by decide))))
  have e2 : w32 ((k : Int) + 2) = ((k + 2 : Nat) : Int) := wad (j := 2) (Nat.le_trans (Nat.add_le_add_left (show 2 ≤ 6 by decide) k) (Nat.le_trans hk (Nat.le_trans hL (by decide))))
  obtain ⟨v, P, hC, hD⟩ := op_lives (sc := sc) h (sc.2 (k + 1)) (sc.2 (k + 2))
  rw [b_W_law_884, e1, and_iff_right c1, Int.toNat_natCast, b_W_law_890, e2, and_iff_right c2, Int.toNat_natCast, b_W_law_895]
  refine hC d _ (fun I1 J1 hP => ?_)
  rw [ap_s, b_W_law_898, e1, and_iff_right c1, Int.toNat_natCast, b_W_law_904, e2, and_iff_right c2, Int.toNat_natCast, b_W_law_909]
  refine hD I1 J1 hP d _ (fun I2 J2 h2 => ?_)
  rw [ap_s, b_W_law_912, if_pos rfl]
  exact hQ I2 J2 h2
theorem lw_declared (h : Inv I J) {k : Nat} (hk : k + 6 ≤ sc.1) (hL : sc.1 ≤ 3072) (hQ : ∀ I2 J2, Inv I2 J2 → X (d + 21) m_W_law 1394 [some (vr 99 0), some (vr 0 0), some (vr 39 0), some (vi (k : Int))] [] (MM sc I2 J2) Q) : X (d + 21) m_W_law 917 [some (vr 99 0), some (vr 0 0), some (vr 39 0), some (vi (k : Int))] [] (MM sc I J) Q := by
  have c1 : 0 ≤ ((k + 1 : Nat) : Int) ∧ ((k + 1 : Nat) : Int) < (sc.1 : Int) := by omega
  have c2 : 0 ≤ ((k + 2 : Nat) : Int) ∧ ((k + 2 : Nat) : Int) < (sc.1 : Int) := by omega
  have e1 : w32 ((k : Int) + 1) = ((k + 1 : Nat) : Int) := wad (j := 1) (Nat.le_trans (Nat.add_le_add_left (show 1 ≤ 6 by decide) k) (Nat.le_trans hk (Nat.le_trans hL (by decide))))
  have e2 : w32 ((k : Int) + 2) = ((k + 2 : Nat) : Int) := wad (j := 2) (Nat.le_trans (Nat.add_le_add_left (show 2 ≤ 6 by decide) k) (Nat.le_trans hk (Nat.le_trans hL (by decide))))
  obtain ⟨v, P, hC, hD⟩ := op_declared (sc := sc) h (sc.2 (k + 1)) (sc.2 (k + 2))
  rw [b_W_law_917, e1, and_iff_right c1, Int.toNat_natCast, b_W_law_923, e2, and_iff_right c2, Int.toNat_natCast, b_W_law_928]
  refine hC d _ (fun I1 J1 hP => ?_)
  rw [ap_s, b_W_law_931, e1, and_iff_right c1, Int.toNat_natCast, b_W_law_937, e2, and_iff_right c2, Int.toNat_natCast, b_W_law_942]
  refine hD I1 J1 hP d _ (fun I2 J2 h2 => ?_)
  rw [ap_s, b_W_law_945, if_pos rfl]
  exact hQ I2 J2 h2
theorem lw_kinds (h : Inv I J) {k : Nat} (hk : k + 6 ≤ sc.1) (hL : sc.1 ≤ 3072) (hQ : ∀ I2 J2, Inv I2 J2 → X (d + 21) m_W_law 1394 [some (vr 99 0), some (vr 0 0), some (vr 39 0), some (vi (k : Int))] [] (MM sc I2 J2) Q) : X (d + 21) m_W_law 950 [some (vr 99 0), some (vr 0 0), some (vr 39 0), some (vi (k : Int))] [] (MM sc I J) Q := by
  have c1 : 0 ≤ ((k + 1 : Nat) : Int) ∧ ((k + 1 : Nat) : Int) < (sc.1 : Int) := by omega
  have c2 : 0 ≤ ((k + 2 : Nat) : Int) ∧ ((k + 2 : Nat) : Int) < (sc.1 : Int) := by omega
  have e1 : w32 ((k : Int) + 1) = ((k + 1 : Nat) : Int) := wad (j := 1) (Nat.le_trans (Nat.add_le_add_left (show 1 ≤ 6 by decide) k) (Nat.le_trans hk (Nat.le_trans hL (by decide))))
  have e2 : w32 ((k : Int) + 2) = ((k + 2 : Nat) : Int) := wad (j := 2) (Nat.le_trans (Nat.add_le_add_left (show 2 ≤ 6 by decide) k) (Nat.le_trans hk (Nat.le_trans hL (by decide))))
  obtain ⟨v, P, hC, hD⟩ := op_kinds (sc := sc) h (sc.2 (k + 1)) (sc.2 (k + 2))
  rw [b_W_law_950, e1, and_iff_right c1, Int.toNat_natCast, b_W_law_956, e2, and_iff_right c2, Int.toNat_natCast, b_W_law_961]
  refine hC d _ (fun I1 J1 hP => ?_)
  rw [ap_s, b_W_law_964, e1, and_iff_right c1, Int.toNat_natCast, b_W_law_970, e2, and_iff_right c2, Int.toNat_natCast, b_W_law_975]
  refine hD I1 J1 hP d _ (fun I2 J2 h2 => ?_)
  rw [ap_s, b_W_law_978, if_pos rfl]
  exact hQ I2 J2 h2
theorem lw_next (h : Inv I J) {k : Nat} (hk : k + 6 ≤ sc.1) (hL : sc.1 ≤ 3072) (hQ : ∀ I2 J2, Inv I2 J2 → X (d + 21) m_W_law 1394 [some (vr 99 0), some (vr 0 0), some (vr 39 0), some (vi (k : Int))] [] (MM sc I2 J2) Q) : X (d + 21) m_W_law 983 [some (vr 99 0), some (vr 0 0), some (vr 39 0), some (vi (k : Int))] [] (MM sc I J) Q := by
  have c1 : 0 ≤ ((k + 1 : Nat) : Int) ∧ ((k + 1 : Nat) : Int) < (sc.1 : Int) := by omega
  have c2 : 0 ≤ ((k + 2 : Nat) : Int) ∧ ((k + 2 : Nat) : Int) < (sc.1 : Int) := by omega
  have e1 : w32 ((k : Int) + 1) = ((k + 1 : Nat) : Int) := wad (j := 1) (Nat.le_trans (Nat.add_le_add_left (show 1 ≤ 6 by decide) k) (Nat.le_trans hk (Nat.le_trans hL (by decide))))
  have e2 : w32 ((k : Int) + 2) = ((k + 2 : Nat) : Int) := wad (j := 2) (Nat.le_trans (Nat.add_le_add_left (show 2 ≤ 6 by decide) k) (Nat.le_trans hk (Nat.le_trans hL (by decide))))
  obtain ⟨v, P, hC, hD⟩ := op_next (sc := sc) h (sc.2 (k + 1)) (sc.2 (k + 2))
  rw [b_W_law_983, e1, and_iff_right c1, Int.toNat_natCast, b_W_law_989, e2, and_iff_right c2, Int.toNat_natCast, b_W_law_994]
  refine hC d _ (fun I1 J1 hP => ?_)
  rw [ap_s, b_W_law_997, e1, and_iff_right c1, Int.toNat_natCast, b_W_law_1003, e2, and_iff_right c2, Int.toNat_natCast, b_W_law_1008]
  refine hD I1 J1 hP d _ (fun I2 J2 h2 => ?_)
  rw [ap_s, b_W_law_1011, if_pos rfl]
  exact hQ I2 J2 h2
theorem lw_boats (h : Inv I J) {k : Nat} (hk : k + 6 ≤ sc.1) (hL : sc.1 ≤ 3072) (hQ : ∀ I2 J2, Inv I2 J2 → X (d + 21) m_W_law 1394 [some (vr 99 0), some (vr 0 0), some (vr 39 0), some (vi (k : Int))] [] (MM sc I2 J2) Q) : X (d + 21) m_W_law 1016 [some (vr 99 0), some (vr 0 0), some (vr 39 0), some (vi (k : Int))] [] (MM sc I J) Q := by
  have c1 : 0 ≤ ((k + 1 : Nat) : Int) ∧ ((k + 1 : Nat) : Int) < (sc.1 : Int) := by omega
  have e1 : w32 ((k : Int) + 1) = ((k + 1 : Nat) : Int) := wad (j := 1) (Nat.le_trans (Nat.add_le_add_left (show 1 ≤ 6 by decide) k) (Nat.le_trans hk (Nat.le_trans hL (by decide))))
  obtain ⟨v, P, hC, hD⟩ := op_boats (sc := sc) h (sc.2 (k + 1))
  rw [b_W_law_1016, e1, and_iff_right c1, Int.toNat_natCast, b_W_law_1022]
  refine hC d _ (fun I1 J1 hP => ?_)
  rw [ap_s, b_W_law_1025, e1, and_iff_right c1, Int.toNat_natCast, b_W_law_1031]
  refine hD I1 J1 hP d _ (fun I2 J2 h2 => ?_)
  rw [ap_s, b_W_law_1034, if_pos rfl]
  exact hQ I2 J2 h2
theorem lw_sets (h : Inv I J) {k : Nat} (hk : k + 6 ≤ sc.1) (hL : sc.1 ≤ 3072) (hQ : ∀ I2 J2, Inv I2 J2 → X (d + 21) m_W_law 1394 [some (vr 99 0), some (vr 0 0), some (vr 39 0), some (vi (k : Int))] [] (MM sc I2 J2) Q) : X (d + 21) m_W_law 1039 [some (vr 99 0), some (vr 0 0), some (vr 39 0), some (vi (k : Int))] [] (MM sc I J) Q := by
  have c1 : 0 ≤ ((k + 1 : Nat) : Int) ∧ ((k + 1 : Nat) : Int) < (sc.1 : Int) := by omega
  have e1 : w32 ((k : Int) + 1) = ((k + 1 : Nat) : Int) := wad (j := 1) (Nat.le_trans (Nat.add_le_add_left (show 1 ≤ 6 by decide) k) (Nat.le_trans hk (Nat.le_trans hL (by decide))))
  obtain ⟨v, P, hC, hD⟩ := op_sets (sc := sc) h (sc.2 (k + 1))
  rw [b_W_law_1039, e1, and_iff_right c1, Int.toNat_natCast, b_W_law_1045]
  refine hC d _ (fun I1 J1 hP => ?_)
  rw [ap_s, b_W_law_1048, e1, and_iff_right c1, Int.toNat_natCast, b_W_law_1054]
  refine hD I1 J1 hP d _ (fun I2 J2 h2 => ?_)
  rw [ap_s, b_W_law_1057, if_pos rfl]
  exact hQ I2 J2 h2
theorem lw_sure (h : Inv I J) {k : Nat} (hk : k + 6 ≤ sc.1) (hL : sc.1 ≤ 3072) (hQ : ∀ I2 J2, Inv I2 J2 → X (d + 21) m_W_law 1394 [some (vr 99 0), some (vr 0 0), some (vr 39 0), some (vi (k : Int))] [] (MM sc I2 J2) Q) : X (d + 21) m_W_law 1062 [some (vr 99 0), some (vr 0 0), some (vr 39 0), some (vi (k : Int))] [] (MM sc I J) Q := by
  have c1 : 0 ≤ ((k + 1 : Nat) : Int) ∧ ((k + 1 : Nat) : Int) < (sc.1 : Int) := by omega
  have e1 : w32 ((k : Int) + 1) = ((k + 1 : Nat) : Int) := wad (j := 1) (Nat.le_trans (Nat.add_le_add_left (show 1 ≤ 6 by decide) k) (Nat.le_trans hk (Nat.le_trans hL (by decide))))
  obtain ⟨v, P, hC, hD⟩ := op_sure (sc := sc) h (sc.2 (k + 1))
  rw [b_W_law_1062, e1, and_iff_right c1, Int.toNat_natCast, b_W_law_1068]
  refine hC d _ (fun I1 J1 hP => ?_)
  rw [ap_s, b_W_law_1071, e1, and_iff_right c1, Int.toNat_natCast, b_W_law_1077]
  refine hD I1 J1 hP d _ (fun I2 J2 h2 => ?_)
  rw [ap_s, b_W_law_1080, if_pos rfl]
  exact hQ I2 J2 h2
theorem lw_alike (h : Inv I J) {k : Nat} (hk : k + 6 ≤ sc.1) (hL : sc.1 ≤ 3072) (hQ : ∀ I2 J2, Inv I2 J2 → X (d + 21) m_W_law 1394 [some (vr 99 0), some (vr 0 0), some (vr 39 0), some (vi (k : Int))] [] (MM sc I2 J2) Q) : X (d + 21) m_W_law 1085 [some (vr 99 0), some (vr 0 0), some (vr 39 0), some (vi (k : Int))] [] (MM sc I J) Q := by
  have c1 : 0 ≤ ((k + 1 : Nat) : Int) ∧ ((k + 1 : Nat) : Int) < (sc.1 : Int) := by omega
  have c2 : 0 ≤ ((k + 2 : Nat) : Int) ∧ ((k + 2 : Nat) : Int) < (sc.1 : Int) := by omega
  have e1 : w32 ((k : Int) + 1) = ((k + 1 : Nat) : Int) := wad (j := 1) (Nat.le_trans (Nat.add_le_add_left (show 1 ≤ 6 by decide) k) (Nat.le_trans hk (Nat.le_trans hL (by decide))))
  have e2 : w32 ((k : Int) + 2) = ((k + 2 : Nat) : Int) := wad (j := 2) (Nat.le_trans (Nat.add_le_add_left (show 2 ≤ 6 by decide) k) (Nat.le_trans hk (Nat.le_trans hL (by decide))))
  obtain ⟨v, P, hC, hD⟩ := op_alike (sc := sc) h (sc.2 (k + 1)) (sc.2 (k + 2))
  rw [b_W_law_1085, e1, and_iff_right c1, Int.toNat_natCast, b_W_law_1091, e2, and_iff_right c2, Int.toNat_natCast, b_W_law_1096]
  refine hC d _ (fun I1 J1 hP => ?_)
  rw [ap_s, b_W_law_1099, e1, and_iff_right c1, Int.toNat_natCast, b_W_law_1105, e2, and_iff_right c2, Int.toNat_natCast, b_W_law_1110]
  refine hD I1 J1 hP d _ (fun I2 J2 h2 => ?_)
  rw [ap_s, b_W_law_1113, if_pos rfl]
  exact hQ I2 J2 h2
theorem lw_duel (h : Inv I J) {k : Nat} (hk : k + 6 ≤ sc.1) (hL : sc.1 ≤ 3072) (hQ : ∀ I2 J2, Inv I2 J2 → X (d + 21) m_W_law 1394 [some (vr 99 0), some (vr 0 0), some (vr 39 0), some (vi (k : Int))] [] (MM sc I2 J2) Q) : X (d + 21) m_W_law 1118 [some (vr 99 0), some (vr 0 0), some (vr 39 0), some (vi (k : Int))] [] (MM sc I J) Q := by
  have c1 : 0 ≤ ((k + 1 : Nat) : Int) ∧ ((k + 1 : Nat) : Int) < (sc.1 : Int) := by omega
  have c2 : 0 ≤ ((k + 2 : Nat) : Int) ∧ ((k + 2 : Nat) : Int) < (sc.1 : Int) := by omega
  have c3 : 0 ≤ ((k + 3 : Nat) : Int) ∧ ((k + 3 : Nat) : Int) < (sc.1 : Int) := by omega
  have e1 : w32 ((k : Int) + 1) = ((k + 1 : Nat) : Int) := wad (j := 1) (Nat.le_trans (Nat.add_le_add_left (show 1 ≤ 6 by decide) k) (Nat.le_trans hk (Nat.le_trans hL (by decide))))
  have e2 : w32 ((k : Int) + 2) = ((k + 2 : Nat) : Int) := wad (j := 2) (Nat.le_trans (Nat.add_le_add_left (show 2 ≤ 6 by decide) k) (Nat.le_trans hk (Nat.le_trans hL (by decide))))
  have e3 : w32 ((k : Int) + 3) = ((k + 3 : Nat) : Int) := wad (j := 3) (Nat.le_trans (Nat.add_le_add_left (show 3 ≤ 6 by decide) k) (Nat.le_trans hk (Nat.le_trans hL (by decide))))
  obtain ⟨v, P, hC, hD⟩ := op_duel (sc := sc) h (sc.2 (k + 1)) (sc.2 (k + 2)) (sc.2 (k + 3))
  rw [b_W_law_1118, e1, and_iff_right c1, Int.toNat_natCast, b_W_law_1124, e2, and_iff_right c2, Int.toNat_natCast, b_W_law_1129, e3, and_iff_right c3, Int.toNat_natCast, b_W_law_1134]
  refine hC d _ (fun I1 J1 hP => ?_)
  rw [ap_s, b_W_law_1137, e1, and_iff_right c1, Int.toNat_natCast, b_W_law_1143, e2, and_iff_right c2, Int.toNat_natCast, b_W_law_1148, e3, and_iff_right c3, Int.toNat_natCast, b_W_law_1153]
  refine hD I1 J1 hP d _ (fun I2 J2 h2 => ?_)
  rw [ap_s, b_W_law_1156, if_pos rfl]
  exact hQ I2 J2 h2
theorem lw_odds (h : Inv I J) {k : Nat} (hk : k + 6 ≤ sc.1) (hL : sc.1 ≤ 3072) (hQ : ∀ I2 J2, Inv I2 J2 → X (d + 21) m_W_law 1394 [some (vr 99 0), some (vr 0 0), some (vr 39 0), some (vi (k : Int))] [] (MM sc I2 J2) Q) : X (d + 21) m_W_law 1161 [some (vr 99 0), some (vr 0 0), some (vr 39 0), some (vi (k : Int))] [] (MM sc I J) Q := by
  have c1 : 0 ≤ ((k + 1 : Nat) : Int) ∧ ((k + 1 : Nat) : Int) < (sc.1 : Int) := by omega
  have c2 : 0 ≤ ((k + 2 : Nat) : Int) ∧ ((k + 2 : Nat) : Int) < (sc.1 : Int) := by omega
  have c3 : 0 ≤ ((k + 3 : Nat) : Int) ∧ ((k + 3 : Nat) : Int) < (sc.1 : Int) := by omega
  have e1 : w32 ((k : Int) + 1) = ((k + 1 : Nat) : Int) := wad (j := 1) (Nat.le_trans (Nat.add_le_add_left (show 1 ≤ 6 by decide) k) (Nat.le_trans hk (Nat.le_trans hL (by decide))))
  have e2 : w32 ((k : Int) + 2) = ((k + 2 : Nat) : Int) := wad (j := 2) (Nat.le_trans (Nat.add_le_add_left (show 2 ≤ 6 by decide) k) (Nat.le_trans hk (Nat.le_trans hL (by decide))))
  have e3 : w32 ((k : Int) + 3) = ((k + 3 : Nat) : Int) := wad (j := 3) (Nat.le_trans (Nat.add_le_add_left (show 3 ≤ 6 by decide) k) (Nat.le_trans hk (Nat.le_trans hL (by decide))))
  obtain ⟨v, P, hC, hD⟩ := op_odds (sc := sc) h (sc.2 (k + 1)) (sc.2 (k + 2)) (sc.2 (k + 3))
  rw [b_W_law_1161, e1, and_iff_right c1, Int.toNat_natCast, b_W_law_1167, e2, and_iff_right c2, Int.toNat_natCast, b_W_law_1172, e3, and_iff_right c3, Int.toNat_natCast, b_W_law_1177]
  refine hC d _ (fun I1 J1 hP => ?_)
  rw [ap_s, b_W_law_1180, e1, and_iff_right c1, Int.toNat_natCast, b_W_law_1186, e2, and_iff_right c2, Int.toNat_natCast, b_W_law_1191, e3, and_iff_right c3, Int.toNat_natCast, b_W_law_1196]
  refine hD I1 J1 hP d _ (fun I2 J2 h2 => ?_)
  rw [ap_s, b_W_law_1199, if_pos rfl]
  exact hQ I2 J2 h2
theorem lw_mid (h : Inv I J) {k : Nat} (hk : k + 6 ≤ sc.1) (hL : sc.1 ≤ 3072) (hQ : ∀ I2 J2, Inv I2 J2 → X (d + 21) m_W_law 1394 [some (vr 99 0), some (vr 0 0), some (vr 39 0), some (vi (k : Int))] [] (MM sc I2 J2) Q) : X (d + 21) m_W_law 1204 [some (vr 99 0), some (vr 0 0), some (vr 39 0), some (vi (k : Int))] [] (MM sc I J) Q := by
  have c1 : 0 ≤ ((k + 1 : Nat) : Int) ∧ ((k + 1 : Nat) : Int) < (sc.1 : Int) := by omega
  have c2 : 0 ≤ ((k + 2 : Nat) : Int) ∧ ((k + 2 : Nat) : Int) < (sc.1 : Int) := by omega
  have c3 : 0 ≤ ((k + 3 : Nat) : Int) ∧ ((k + 3 : Nat) : Int) < (sc.1 : Int) := by omega
  have e1 : w32 ((k : Int) + 1) = ((k + 1 : Nat) : Int) := wad (j := 1) (Nat.le_trans (Nat.add_le_add_left (show 1 ≤ 6 by decide) k) (Nat.le_trans hk (Nat.le_trans hL (by decide))))
  have e2 : w32 ((k : Int) + 2) = ((k + 2 : Nat) : Int) := wad (j := 2) (Nat.le_trans (Nat.add_le_add_left (show 2 ≤ 6 by decide) k) (Nat.le_trans hk (Nat.le_trans hL (by decide))))
  have e3 : w32 ((k : Int) + 3) = ((k + 3 : Nat) : Int) := wad (j := 3) (Nat.le_trans (Nat.add_le_add_left (show 3 ≤ 6 by decide) k) (Nat.le_trans hk (Nat.le_trans hL (by decide))))
  obtain ⟨v, P, hC, hD⟩ := op_mid (sc := sc) h (sc.2 (k + 1)) (sc.2 (k + 2)) (sc.2 (k + 3))
  rw [b_W_law_1204, e1, and_iff_right c1, Int.toNat_natCast, b_W_law_1210, e2, and_iff_right c2, Int.toNat_natCast, b_W_law_1215, e3, and_iff_right c3, Int.toNat_natCast, b_W_law_1220]
  refine hC d _ (fun I1 J1 hP => ?_)
  rw [ap_s, b_W_law_1223, e1, and_iff_right c1, Int.toNat_natCast, b_W_law_1229, e2, and_iff_right c2, Int.toNat_natCast, b_W_law_1234, e3, and_iff_right c3, Int.toNat_natCast, b_W_law_1239]
  refine hD I1 J1 hP d _ (fun I2 J2 h2 => ?_)
  rw [ap_s, b_W_law_1242, if_pos rfl]
  exact hQ I2 J2 h2
theorem lw_lots (h : Inv I J) {k : Nat} (hk : k + 6 ≤ sc.1) (hL : sc.1 ≤ 3072) (hQ : ∀ I2 J2, Inv I2 J2 → X (d + 21) m_W_law 1394 [some (vr 99 0), some (vr 0 0), some (vr 39 0), some (vi (k : Int))] [] (MM sc I2 J2) Q) : X (d + 21) m_W_law 1247 [some (vr 99 0), some (vr 0 0), some (vr 39 0), some (vi (k : Int))] [] (MM sc I J) Q := by
  have c1 : 0 ≤ ((k + 1 : Nat) : Int) ∧ ((k + 1 : Nat) : Int) < (sc.1 : Int) := by omega
  have c2 : 0 ≤ ((k + 2 : Nat) : Int) ∧ ((k + 2 : Nat) : Int) < (sc.1 : Int) := by omega
  have e1 : w32 ((k : Int) + 1) = ((k + 1 : Nat) : Int) := wad (j := 1) (Nat.le_trans (Nat.add_le_add_left (show 1 ≤ 6 by decide) k) (Nat.le_trans hk (Nat.le_trans hL (by decide))))
  have e2 : w32 ((k : Int) + 2) = ((k + 2 : Nat) : Int) := wad (j := 2) (Nat.le_trans (Nat.add_le_add_left (show 2 ≤ 6 by decide) k) (Nat.le_trans hk (Nat.le_trans hL (by decide))))
  obtain ⟨v, P, hC, hD⟩ := op_lots (sc := sc) h (sc.2 (k + 1)) (sc.2 (k + 2))
  rw [b_W_law_1247, e1, and_iff_right c1, Int.toNat_natCast, b_W_law_1253, e2, and_iff_right c2, Int.toNat_natCast, b_W_law_1258]
  refine hC d _ (fun I1 J1 hP => ?_)
  rw [ap_s, b_W_law_1261, e1, and_iff_right c1, Int.toNat_natCast, b_W_law_1267, e2, and_iff_right c2, Int.toNat_natCast, b_W_law_1272]
  refine hD I1 J1 hP d _ (fun I2 J2 h2 => ?_)
  rw [ap_s, b_W_law_1275, if_pos rfl]
  exact hQ I2 J2 h2
theorem lw_asked (h : Inv I J) {k : Nat} (hk : k + 6 ≤ sc.1) (hL : sc.1 ≤ 3072) (hQ : ∀ I2 J2, Inv I2 J2 → X (d + 21) m_W_law 1394 [some (vr 99 0), some (vr 0 0), some (vr 39 0), some (vi (k : Int))] [] (MM sc I2 J2) Q) : X (d + 21) m_W_law 1280 [some (vr 99 0), some (vr 0 0), some (vr 39 0), some (vi (k : Int))] [] (MM sc I J) Q := by
  obtain ⟨v, P, hC, hD⟩ := opW_I (op_asked (sc := sc) h)
  rw [b_W_law_1280]
  refine hC d _ (fun I1 J1 hP => ?_)
  rw [ap_s, b_W_law_1284]
  refine hD I1 J1 hP d _ (fun I2 J2 h2 => ?_)
  rw [ap_s, b_W_law_1288, if_pos rfl]
  exact hQ I2 J2 h2
theorem lw_upper (h : Inv I J) {k : Nat} (hk : k + 6 ≤ sc.1) (hL : sc.1 ≤ 3072) (hQ : ∀ I2 J2, Inv I2 J2 → X (d + 21) m_W_law 1394 [some (vr 99 0), some (vr 0 0), some (vr 39 0), some (vi (k : Int))] [] (MM sc I2 J2) Q) : X (d + 21) m_W_law 1293 [some (vr 99 0), some (vr 0 0), some (vr 39 0), some (vi (k : Int))] [] (MM sc I J) Q := by
  obtain ⟨v, I1, J1, I2, J2, hC, hD, h2⟩ := op_upper (sc := sc) h
  rw [b_W_law_1293]
  refine hC d _ ?_
  rw [ap_s, b_W_law_1297]
  refine hD d _ ?_
  rw [ap_s, b_W_law_1301, lc_self, if_pos rfl]
  exact hQ I2 J2 h2
theorem lw_lower (h : Inv I J) {k : Nat} (hk : k + 6 ≤ sc.1) (hL : sc.1 ≤ 3072) (hQ : ∀ I2 J2, Inv I2 J2 → X (d + 21) m_W_law 1394 [some (vr 99 0), some (vr 0 0), some (vr 39 0), some (vi (k : Int))] [] (MM sc I2 J2) Q) : X (d + 21) m_W_law 1307 [some (vr 99 0), some (vr 0 0), some (vr 39 0), some (vi (k : Int))] [] (MM sc I J) Q := by
  obtain ⟨v, I1, J1, I2, J2, hC, hD, h2⟩ := op_lower (sc := sc) h
  rw [b_W_law_1307]
  refine hC d _ ?_
  rw [ap_s, b_W_law_1311]
  refine hD d _ ?_
  rw [ap_s, b_W_law_1315, lc_self, if_pos rfl]
  exact hQ I2 J2 h2
theorem lw_count (h : Inv I J) {k : Nat} (hk : k + 6 ≤ sc.1) (hL : sc.1 ≤ 3072) (hQ : ∀ I2 J2, Inv I2 J2 → X (d + 21) m_W_law 1394 [some (vr 99 0), some (vr 0 0), some (vr 39 0), some (vi (k : Int))] [] (MM sc I2 J2) Q) : X (d + 21) m_W_law 1321 [some (vr 99 0), some (vr 0 0), some (vr 39 0), some (vi (k : Int))] [] (MM sc I J) Q := by
  have c1 : 0 ≤ ((k + 1 : Nat) : Int) ∧ ((k + 1 : Nat) : Int) < (sc.1 : Int) := by omega
  have e1 : w32 ((k : Int) + 1) = ((k + 1 : Nat) : Int) := wad (j := 1) (Nat.le_trans (Nat.add_le_add_left (show 1 ≤ 6 by decide) k) (Nat.le_trans hk (Nat.le_trans hL (by decide))))
  obtain ⟨v, P, hC, hD⟩ := op_count (sc := sc) h (sc.2 (k + 1))
  rw [b_W_law_1321, e1, and_iff_right c1, Int.toNat_natCast, b_W_law_1327]
  refine hC d _ (fun I1 J1 hP => ?_)
  rw [ap_s, b_W_law_1330, e1, and_iff_right c1, Int.toNat_natCast, b_W_law_1336]
  refine hD I1 J1 hP d _ (fun I2 J2 h2 => ?_)
  rw [ap_s, b_W_law_1339, if_pos rfl]
  exact hQ I2 J2 h2
theorem lw_finding (h : Inv I J) {k : Nat} (hk : k + 6 ≤ sc.1) (hL : sc.1 ≤ 3072) (hQ : ∀ I2 J2, Inv I2 J2 → X (d + 21) m_W_law 1394 [some (vr 99 0), some (vr 0 0), some (vr 39 0), some (vi (k : Int))] [] (MM sc I2 J2) Q) : X (d + 21) m_W_law 1344 [some (vr 99 0), some (vr 0 0), some (vr 39 0), some (vi (k : Int))] [] (MM sc I J) Q := by
  obtain ⟨v, P, hC, hD⟩ := opW_I (op_finding (sc := sc) h)
  rw [b_W_law_1344]
  refine hC d _ (fun I1 J1 hP => ?_)
  rw [ap_s, b_W_law_1348]
  refine hD I1 J1 hP d _ (fun I2 J2 h2 => ?_)
  rw [ap_s, b_W_law_1352, if_pos rfl]
  exact hQ I2 J2 h2
theorem lw_findings (h : Inv I J) {k : Nat} (hk : k + 6 ≤ sc.1) (hL : sc.1 ≤ 3072) (hQ : ∀ I2 J2, Inv I2 J2 → X (d + 21) m_W_law 1394 [some (vr 99 0), some (vr 0 0), some (vr 39 0), some (vi (k : Int))] [] (MM sc I2 J2) Q) : X (d + 21) m_W_law 1357 [some (vr 99 0), some (vr 0 0), some (vr 39 0), some (vi (k : Int))] [] (MM sc I J) Q := by
  have c1 : 0 ≤ ((k + 1 : Nat) : Int) ∧ ((k + 1 : Nat) : Int) < (sc.1 : Int) := by omega
  have e1 : w32 ((k : Int) + 1) = ((k + 1 : Nat) : Int) := wad (j := 1) (Nat.le_trans (Nat.add_le_add_left (show 1 ≤ 6 by decide) k) (Nat.le_trans hk (Nat.le_trans hL (by decide))))
  obtain ⟨v, P, hC, hD⟩ := opW_I (op_findings (sc := sc) h (sc.2 (k + 1)))
  rw [b_W_law_1357, e1, and_iff_right c1, Int.toNat_natCast, b_W_law_1363]
  refine hC d _ (fun I1 J1 hP => ?_)
  rw [ap_s, b_W_law_1366, e1, and_iff_right c1, Int.toNat_natCast, b_W_law_1372]
  refine hD I1 J1 hP d _ (fun I2 J2 h2 => ?_)
  rw [ap_s, b_W_law_1375, if_pos rfl]
  exact hQ I2 J2 h2
theorem lw_digest (h : Inv I J) {k : Nat} (hk : k + 6 ≤ sc.1) (hL : sc.1 ≤ 3072) (hQ : ∀ I2 J2, Inv I2 J2 → X (d + 21) m_W_law 1394 [some (vr 99 0), some (vr 0 0), some (vr 39 0), some (vi (k : Int))] [] (MM sc I2 J2) Q) : X (d + 21) m_W_law 1380 [some (vr 99 0), some (vr 0 0), some (vr 39 0), some (vi (k : Int))] [] (MM sc I J) Q := by
  obtain ⟨v, I1, J1, I2, J2, hC, hD, h2⟩ := op_digest (sc := sc) h
  rw [b_W_law_1380]
  refine hC d _ ?_
  rw [ap_s, b_W_law_1384]
  refine hD d _ ?_
  rw [ap_s, b_W_law_1388, lc_self, if_pos rfl]
  exact hQ I2 J2 h2
theorem law_loop (hL : sc.1 ≤ 3072) (hQ : ∀ I2 J2, Q (some (vi 1)) (MM sc I2 J2)) : ∀ (f k : Nat) (I J : TI), sc.1 ≤ k + 6 * f → k ≤ 3100 → Inv I J → X (d + 21) m_W_law 18 [some (vr 99 0), some (vr 0 0), some (vr 39 0), some (vi (k : Int))] [] (MM sc I J) Q
  | 0, k, I, J, e, hk, h => by
    rw [b_W_law_18, w32_eq (by omega) (by omega), if_pos (by omega), b_W_law_1400]
    exact hQ I J
  | f + 1, k, I, J, e, hk, h => by
    by_cases z : (sc.1 : Int) - 6 < (k : Int)
    · rw [b_W_law_18, w32_eq (by omega) (by omega), if_pos z, b_W_law_1400]
      exact hQ I J
    · have k6 : k + 6 ≤ sc.1 := by omega
      have c0 : 0 ≤ (k : Int) ∧ (k : Int) < (sc.1 : Int) := by omega
      have nxt : ∀ I2 J2, Inv I2 J2 → X (d + 21) m_W_law 1394 [some (vr 99 0), some (vr 0 0), some (vr 39 0), some (vi (k : Int))] [] (MM sc I2 J2) Q := fun I2 J2 h2 => by
        have ih := law_loop hL hQ f (k + 6) I2 J2 (by omega) (by omega) h2
        rw [b_W_law_1394, show w32 ((k : Int) + 6) = ((k + 6 : Nat) : Int) from wad (j := 6) (by omega)]
        exact ih
      rw [b_W_law_18, w32_eq (by omega) (by omega), if_neg z, b_W_law_27, and_iff_right c0, Int.toNat_natCast, b_W_law_30]
      refine ite_x (fun _ => lw_row h k6 hL nxt) (fun _ => ?_)
      refine ite_x (fun _ => lw_lay h k6 hL nxt) (fun _ => ?_)
      refine ite_x (fun _ => lw_at h k6 hL nxt) (fun _ => ?_)
      refine ite_x (fun _ => lw_tear h k6 hL nxt) (fun _ => ?_)
      refine ite_x (fun _ => lw_copy h k6 hL nxt) (fun _ => ?_)
      refine ite_x (fun _ => lw_mean h k6 hL nxt) (fun _ => ?_)
      refine ite_x (fun _ => lw_text h k6 hL nxt) (fun _ => ?_)
      refine ite_x (fun _ => lw_put h k6 hL nxt) (fun _ => ?_)
      refine ite_x (fun _ => lw_fault h k6 hL nxt) (fun _ => ?_)
      refine ite_x (fun _ => lw_ferry h k6 hL nxt) (fun _ => ?_)
      refine ite_x (fun _ => lw_passenger h k6 hL nxt) (fun _ => ?_)
      refine ite_x (fun _ => lw_mark h k6 hL nxt) (fun _ => ?_)
      refine ite_x (fun _ => lw_cross h k6 hL nxt) (fun _ => ?_)
      refine ite_x (fun _ => lw_set h k6 hL nxt) (fun _ => ?_)
      refine ite_x (fun _ => lw_undo h k6 hL nxt) (fun _ => ?_)
      refine ite_x (fun _ => lw_keep h k6 hL nxt) (fun _ => ?_)
      refine ite_x (fun _ => lw_on h k6 hL nxt) (fun _ => ?_)
      refine ite_x (fun _ => lw_changes h k6 hL nxt) (fun _ => ?_)
      refine ite_x (fun _ => lw_run h k6 hL nxt) (fun _ => ?_)
      refine ite_x (fun _ => lw_fewest h k6 hL nxt) (fun _ => ?_)
      refine ite_x (fun _ => lw_lives h k6 hL nxt) (fun _ => ?_)
      refine ite_x (fun _ => lw_declared h k6 hL nxt) (fun _ => ?_)
      refine ite_x (fun _ => lw_kinds h k6 hL nxt) (fun _ => ?_)
      refine ite_x (fun _ => lw_next h k6 hL nxt) (fun _ => ?_)
      refine ite_x (fun _ => lw_boats h k6 hL nxt) (fun _ => ?_)
      refine ite_x (fun _ => lw_sets h k6 hL nxt) (fun _ => ?_)
      refine ite_x (fun _ => lw_sure h k6 hL nxt) (fun _ => ?_)
      refine ite_x (fun _ => lw_alike h k6 hL nxt) (fun _ => ?_)
      refine ite_x (fun _ => lw_duel h k6 hL nxt) (fun _ => ?_)
      refine ite_x (fun _ => lw_odds h k6 hL nxt) (fun _ => ?_)
      refine ite_x (fun _ => lw_mid h k6 hL nxt) (fun _ => ?_)
      refine ite_x (fun _ => lw_lots h k6 hL nxt) (fun _ => ?_)
      refine ite_x (fun _ => lw_asked h k6 hL nxt) (fun _ => ?_)
      refine ite_x (fun _ => lw_upper h k6 hL nxt) (fun _ => ?_)
      refine ite_x (fun _ => lw_lower h k6 hL nxt) (fun _ => ?_)
      refine ite_x (fun _ => lw_count h k6 hL nxt) (fun _ => ?_)
      refine ite_x (fun _ => lw_finding h k6 hL nxt) (fun _ => ?_)
      refine ite_x (fun _ => lw_findings h k6 hL nxt) (fun _ => ?_)
      refine ite_x (fun _ => lw_digest h k6 hL nxt) (fun _ => ?_)
      exact nxt I J h
end LA
