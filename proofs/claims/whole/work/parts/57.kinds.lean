/-! KINDS -/
def prP (f : Nat → Int) (q : Nat) : Prop := 0 ≤ f q ∧ f q ≤ (if q % 2 = 0 then 6 else 27)
def ftF (k L n : Int) (f : Nat → Int) : Nat → Int
  | 0 => 1
  | q + 1 => if ftF k L n f q = 0 then 0 else if tg (rL k L n (fun j => f (2 * j)) (q + 1)) = f (2 * q + 1) then 1 else 0
theorem ft_01 {k L n : Int} {f : Nat → Int} : ∀ q : Nat, ftF k L n f q = 0 ∨ ftF k L n f q = 1
  | 0 => Or.inr rfl
  | q + 1 => by
    unfold ftF
    (repeat' split) <;> simp
theorem ft_0 {k L n : Int} {f : Nat → Int} {q : Nat} (h : ftF k L n f q = 0) : ∀ m : Nat, ftF k L n f (q + m) = 0
  | 0 => h
  | m + 1 => by
    show ftF k L n f (q + m + 1) = 0
    unfold ftF
    rw [if_pos (ft_0 h m)]
theorem ft_eq {k L n : Int} {f g : Nat → Int} : ∀ {q : Nat}, (∀ j, j < 2 * q → f j = g j) → ftF k L n f q = ftF k L n g q
  | 0, _ => rfl
  | q + 1, h => by
    unfold ftF
    rw [ft_eq (q := q) (fun j hj => h j (by omega)), (rL_eq (m := q + 1) (f := fun j => f (2 * j)) (g := fun j => g (2 * j)) (fun j hj => h _ (by omega))).1, h _ (by omega)]
def kfF (L n : Int) (f : Nat → Int) (H : Nat) : Nat → Int
  | 0 => 0
  | k + 1 => if ftF k L n f H = 0 then kfF L n f H k else i_or (kfF L n f H k) (i_shl 1 k)
theorem kfF_i32 (L n : Int) (f : Nat → Int) (H : Nat) : ∀ c : Nat, i32 (kfF L n f H c)
  | 0 => i32_0
  | c + 1 => by
    unfold kfF
    split
    · exact kfF_i32 L n f H c
    · exact i32_of _
theorem kf_eq {L n : Int} {f g : Nat → Int} {H : Nat} (h : ∀ j, j < 2 * H → f j = g j) : ∀ k : Nat, kfF L n f H k = kfF L n g H k
  | 0 => rfl
  | k + 1 => by
    unfold kfF
    rw [kf_eq h k, ft_eq h]
theorem or64 : ∀ x : _root_.Fin 64, ∀ c : _root_.Fin 6, 0 ≤ i_or (x.val : Int) (i_shl 1 (c.val : Int)) ∧ i_or (x.val : Int) (i_shl 1 (c.val : Int)) < 64 := by decide +kernel
theorem or64' {x : Int} {c : Nat} (h : 0 ≤ x ∧ x < 64) (hc : c < 6) : 0 ≤ i_or x (i_shl 1 (c : Int)) ∧ i_or x (i_shl 1 (c : Int)) < 64 := by
  obtain ⟨x, rfl⟩ := Int.eq_ofNat_of_zero_le h.1
  exact or64 ⟨x, by omega⟩ ⟨c, hc⟩
theorem kf_in {L n : Int} {f : Nat → Int} {H : Nat} : ∀ k : Nat, k ≤ 6 → 0 ≤ kfF L n f H k ∧ kfF L n f H k < 64
  | 0, _ => ⟨Int.le_refl 0, show (0 : Int) < 64 by decide⟩
  | k + 1, h => by
    have := kf_in (L := L) (n := n) (f := f) (H := H) k (by omega)
    unfold kfF
    split
    · exact this
    · exact or64' this (by omega)
section KI
variable {d : Nat} {Q : Option AV → AMem → Prop} {sc : SC} {I J : TI}
theorem l_C_pr {r n : Nat} (hl : n ≤ lenP r) (hs : I 28 r 1 = n) : ∀ (m k : Nat) (o : Option AV), k + m = n → (((∀ q, k ≤ q → q < n → prP (I 29 r) q) → (X (d + 1) m_C_refusalOfPairs 39 [some (vr 0 0), some (vr 28 r), some (vi (k : Int)), o] [] (MM sc I J) Q ↔ Q (some (vi 0)) (MM sc I J))) ∧ ((¬ ∀ q, k ≤ q → q < n → prP (I 29 r) q) → (X (d + 1) m_C_refusalOfPairs 39 [some (vr 0 0), some (vr 28 r), some (vi (k : Int)), o] [] (MM sc I J) Q ↔ Q (some (vi (-3))) (MM sc (fdC I 3) J))))
  | 0, k, o, e => by
    refine ⟨fun _ => ?_, fun z => absurd (fun q h1 h2 => by omega) z⟩
    rw [b_C_refusalOfPairs_39, hs, if_pos (by omega), b_C_refusalOfPairs_92]
  | m + 1, k, o, e => by
    have hle := lenP_le r
    have ih := fun o => l_C_pr hl hs m (k + 1) o (by omega)
    have st : X (d + 1) m_C_refusalOfPairs 39 [some (vr 0 0), some (vr 28 r), some (vi (k : Int)), o] [] (MM sc I J) Q ↔ if I 29 r k < 0 then Q (some (vi (-3))) (MM sc (fdC I 3) J) else if I 29 r k ≤ (if k % 2 = 0 then 6 else 27) then X (d + 1) m_C_refusalOfPairs 39 [some (vr 0 0), some (vr 28 r), some (vi ((k + 1 : Nat) : Int)), some (vi (if k % 2 = 0 then 6 else 27))] [] (MM sc I J) Q else Q (some (vi (-3))) (MM sc (fdC I 3) J) := by
      rw [b_C_refusalOfPairs_39, hs, if_neg (by omega), b_C_refusalOfPairs_47, b_C_refusalOfPairs_53, b_C_refusalOfPairs_58, tm_eq (by omega)]
      have fin : ∀ x : Int, (X (d + 1) m_C_refusalOfPairs 60 [some (vr 0 0), some (vr 28 r), some (vi (k : Int)), o] [vi x] (MM sc I J) Q ↔ if I 29 r k < 0 then Q (some (vi (-3))) (MM sc (fdC I 3) J) else if I 29 r k ≤ x then X (d + 1) m_C_refusalOfPairs 39 [some (vr 0 0), some (vr 28 r), some (vi ((k + 1 : Nat) : Int)), some (vi x)] [] (MM sc I J) Q else Q (some (vi (-3))) (MM sc (fdC I 3) J)) := fun x => by
        rw [b_C_refusalOfPairs_60, and_iff_right (by omega), Int.toNat_natCast, b_C_refusalOfPairs_67, b_C_refusalOfPairs_80, s_C_fd3, ap_s, b_C_refusalOfPairs_85, b_C_refusalOfPairs_70, and_iff_right (by omega), Int.toNat_natCast, b_C_refusalOfPairs_76, b_C_refusalOfPairs_80, s_C_fd3, ap_s, b_C_refusalOfPairs_85, b_C_refusalOfPairs_86, wsuc (by omega)]
      rw [fin, fin]
      by_cases z : k % 2 = 0
      · rw [if_pos (show (k : Int) % 2 = 0 by omega)]
        simp only [z, if_true]
      · rw [if_neg (show ¬ (k : Int) % 2 = 0 by omega)]
        simp only [z, if_false]
    refine ⟨fun z => ?_, fun z => ?_⟩
    · have zk := z k (Nat.le_refl _) (by omega)
      unfold prP at zk
      rw [st, if_neg (by omega), if_pos zk.2]
      exact (ih _).1 (fun q h1 h2 => z q (by omega) h2)
    · rw [st]
      by_cases y : I 29 r k < 0
      · rw [if_pos y]
      · rw [if_neg y]
        by_cases x : I 29 r k ≤ (if k % 2 = 0 then 6 else 27)
        · rw [if_pos x]
          refine (ih _).2 (fun w => z (fun q h1 h2 => ?_))
          by_cases e : q = k
          · subst e; exact ⟨by omega, x⟩
          · exact w q (by omega) h2
        · rw [if_neg x]
theorem l_D_pr {r S : Nat} (hr : r < 6) (hS : S ≤ 40) (hs : I 40 0 r = S) : ∀ (m k : Nat), k + 2 * m = S → (((∀ q, k ≤ q → q < S → (q - k) % 2 = 0 → I 41 0 (40 * r + q) ≤ 6) → (X d m_D_pairsFound 37 [some (vr 39 0), some (vi (r : Int)), some (vi 0), some (vi (k : Int))] [] (MM sc I J) Q ↔ Q (some (vi 0)) (MM sc I J))) ∧ ((¬ ∀ q, k ≤ q → q < S → (q - k) % 2 = 0 → I 41 0 (40 * r + q) ≤ 6) → (X d m_D_pairsFound 37 [some (vr 39 0), some (vi (r : Int)), some (vi 0), some (vi (k : Int))] [] (MM sc I J) Q ↔ Q (some (vi 3)) (MM sc I J))))
  | 0, k, e => by
    refine ⟨fun _ => ?_, fun z => absurd (fun q h1 h2 => by omega) z⟩
    rw [b_D_pairsFound_37, and_iff_right (by omega), Int.toNat_natCast, hs, b_D_pairsFound_44, if_pos (by omega), b_D_pairsFound_79]
  | m + 1, k, e => by
    have ih := l_D_pr hr hS hs m (k + 2) (by omega)
    have e1 : w32 (w32 (40 * (r : Int)) + (k : Int)) = ((40 * r + k : Nat) : Int) := by rw [w32_eq (x := 40 * (r : Int)) (by omega) (by omega), w32_eq (by omega) (by omega)]; omega
    have e2 : w32 ((k : Int) + 2) = ((k + 2 : Nat) : Int) := by rw [w32_eq (by omega) (by omega)]; omega
    have st : X d m_D_pairsFound 37 [some (vr 39 0), some (vi (r : Int)), some (vi 0), some (vi (k : Int))] [] (MM sc I J) Q ↔ if I 41 0 (40 * r + k) ≤ 6 then X d m_D_pairsFound 37 [some (vr 39 0), some (vi (r : Int)), some (vi 0), some (vi ((k + 2 : Nat) : Int))] [] (MM sc I J) Q else X d m_D_pairsFound 37 [some (vr 39 0), some (vi (r : Int)), some (vi 3), some (vi ((k + 2 : Nat) : Int))] [] (MM sc I J) Q := by
      rw [b_D_pairsFound_37, and_iff_right (by omega), Int.toNat_natCast, hs, b_D_pairsFound_44, if_neg (by omega), b_D_pairsFound_47, if_pos rfl, b_D_pairsFound_51, e1, and_iff_right (by omega), Int.toNat_natCast, b_D_pairsFound_62, b_D_pairsFound_67, b_D_pairsFound_71, b_D_pairsFound_72, b_D_pairsFound_72, e2]
    refine ⟨fun z => ?_, fun z => ?_⟩
    · rw [st, if_pos (z k (Nat.le_refl _) (by omega) (by omega))]
      exact ih.1 (fun q h1 h2 h3 => z q (by omega) h2 (by omega))
    · rw [st]
      by_cases y : I 41 0 (40 * r + k) ≤ 6
      · rw [if_pos y]
        refine ih.2 (fun w => z (fun q h1 h2 h3 => ?_))
        by_cases e : q = k
        · subst e; exact y
        · exact w q (by omega) h2 (by omega)
      · rw [if_neg y, b_D_pairsFound_37, and_iff_right (by omega), Int.toNat_natCast, hs, b_D_pairsFound_44, b_D_pairsFound_47, b_D_pairsFound_79]
        simp
theorem s_D_prX {r : Nat} {x : Int} (hr : r < 6) (hx : ¬ x = 0) : X d m_D_pairsFound 35 [some (vr 39 0), some (vi (r : Int)), some (vi x), none] [] (MM sc I J) Q ↔ Q (some (vi x)) (MM sc I J) := by
  rw [b_D_pairsFound_35, b_D_pairsFound_37, and_iff_right (by omega), Int.toNat_natCast, b_D_pairsFound_44, b_D_pairsFound_47, b_D_pairsFound_79]
  simp [hx]
theorem pairchk (h : Inv I J) {r : Nat} (hr : r < 6) : (∃ f : Nat, 1 ≤ f ∧ f < 6 ∧ (∀ (d : Nat) (Q : Option AV → AMem → Prop) (sc : SC), X (d + 2) m_C_refusalOfPairs 0 [some (vr 0 0), some (vr 28 r), none, none] [] (MM sc I J) Q ↔ Q (some (vi (-3))) (MM sc (fdC I f) J)) ∧ (∀ (d : Nat) (Q : Option AV → AMem → Prop) (sc : SC) (I' J' : TI), I' 40 = I 40 → I' 41 = I 41 → (X (d + 2) m_D_pairsFound 0 [some (vr 39 0), some (vi (r : Int)), none, none] [] (MM sc I' J') Q ↔ Q (some (vi (f : Int))) (MM sc I' J')))) ∨
    (∃ H : Nat, I 28 r 1 = ((2 * H : Nat) : Int) ∧ I 40 0 r = ((2 * H : Nat) : Int) ∧ H ≤ 8 ∧ (∀ q, q < 2 * H → prP (I 29 r) q) ∧ (∀ q, q < 2 * H → I 29 r q = I 41 0 (40 * r + q)) ∧ (∀ (d : Nat) (Q : Option AV → AMem → Prop) (sc : SC), X (d + 2) m_C_refusalOfPairs 0 [some (vr 0 0), some (vr 28 r), none, none] [] (MM sc I J) Q ↔ Q (some (vi 0)) (MM sc I J)) ∧ (∀ (d : Nat) (Q : Option AV → AMem → Prop) (sc : SC) (I' J' : TI), I' 40 = I 40 → I' 41 = I 41 → (X (d + 2) m_D_pairsFound 0 [some (vr 39 0), some (vi (r : Int)), none, none] [] (MM sc I' J') Q ↔ Q (some (vi 0)) (MM sc I' J')))) := by
  obtain ⟨k1, k2, k3, k4⟩ := h.1 r hr
  have r0 : (0 : Int) ≤ r := by omega
  have r6 : (r : Int) < 6 := by omega
  by_cases c1 : I 28 r 1 < 0
  · have d2 : I 40 0 r ≤ 0 := by omega
    rcases rowchk h hr 0 16 0 27 with ⟨f, f1, f6, hC, hD⟩ | ⟨S, s1, s2, s3, s4, s5, s6, s7, hC, hD⟩
    · refine Or.inl ⟨1, by omega, by omega, fun d Q sc => ?_, fun d Q sc I' J' e1 e2 => ?_⟩
      · simp only [b_C_refusalOfPairs_0, b_C_refusalOfPairs_4, b_C_refusalOfPairs_7, b_C_refusalOfPairs_12, s_R_isMissing, s_C_fd1, c1, i10, ap_s, ap_n, and_self, and_true, true_and, if_true, if_false, not_true_eq_false, not_false_eq_true, Int.toNat_natCast]
      · have d1 : ¬ 0 ≤ I 40 0 r := by omega
        simp only [b_D_pairsFound_0, b_D_pairsFound_11, b_D_pairsFound_18, b_D_pairsFound_21, b_D_pairsFound_27, b_D_pairsFound_33, b_D_rowFound_0, b_D_rowFound_6, b_D_rowFound_9, e1, d1, d2, r0, r6, i10, ap_s, ap_n, and_self, and_true, true_and, if_true, if_false, not_true_eq_false, not_false_eq_true, Int.toNat_natCast]
        exact s_D_prX hr (by decide)
    · exfalso; omega
  · obtain ⟨S, hS⟩ := Int.eq_ofNat_of_zero_le (show 0 ≤ I 28 r 1 by omega)
    have hS2 : I 40 0 r = S := by omega
    have S0 : ¬ (S : Int) < 0 := by omega
    have S1 : (0 : Int) ≤ S := by omega
    have hl : S ≤ lenP r := by unfold lenP; split <;> omega
    have tm : (S : Int).tmod 2 = (S : Int) % 2 := tm_eq S1
    by_cases cO : S % 2 = 1
    · have o1 : ¬ (S : Int) % 2 = 0 := by omega
      have o2 : (S : Int) % 2 = 1 := by omega
      have o3 : ¬ (S : Int) ≤ 0 := by omega
      refine Or.inl ⟨5, by omega, by omega, fun d Q sc => ?_, fun d Q sc I' J' e1 e2 => ?_⟩
      · simp only [b_C_refusalOfPairs_0, b_C_refusalOfPairs_4, b_C_refusalOfPairs_7, b_C_refusalOfPairs_12, b_C_refusalOfPairs_13, b_C_refusalOfPairs_22, b_C_refusalOfPairs_31, b_C_refusalOfPairs_36, b_C_refusalOfPairs_37, s_R_isMissing, s_C_fd5, hS, S0, tm, o1, i10, ap_s, ap_n, and_self, and_true, true_and, if_true, if_false, not_true_eq_false, not_false_eq_true, Int.toNat_natCast]
        split <;> exact Iff.rfl
      · rcases rowchk h hr 0 16 0 27 with ⟨f, f1, f6, hC, hD⟩ | ⟨S', s1, s2, s3, s4, s5, s6, s7, hC, hD⟩
        · simp only [b_D_pairsFound_0, b_D_pairsFound_11, b_D_pairsFound_18, b_D_pairsFound_21, b_D_pairsFound_27, b_D_pairsFound_33, hD _ _ sc I' J' e1 e2, e1, hS2, tm, o2, o3, r0, r6, i10, ap_s, ap_n, and_self, and_true, true_and, if_true, if_false, not_true_eq_false, not_false_eq_true, Int.toNat_natCast]
          exact Iff.rfl
        · simp only [b_D_pairsFound_0, b_D_pairsFound_11, b_D_pairsFound_18, b_D_pairsFound_21, b_D_pairsFound_27, b_D_pairsFound_33, hD _ _ sc I' J' e1 e2, e1, hS2, tm, o2, o3, r0, r6, i10, ap_s, ap_n, and_self, and_true, true_and, if_true, if_false, not_true_eq_false, not_false_eq_true, Int.toNat_natCast]
          exact Iff.rfl
    · have o1 : (S : Int) % 2 = 0 := by omega
      have o2 : ¬ (S : Int) % 2 = 1 := by omega
      by_cases c16 : 16 < (S : Int)
      · refine Or.inl ⟨5, by omega, by omega, fun d Q sc => ?_, fun d Q sc I' J' e1 e2 => ?_⟩
        · simp only [b_C_refusalOfPairs_0, b_C_refusalOfPairs_4, b_C_refusalOfPairs_7, b_C_refusalOfPairs_12, b_C_refusalOfPairs_13, b_C_refusalOfPairs_22, b_C_refusalOfPairs_31, b_C_refusalOfPairs_36, b_C_refusalOfPairs_37, s_R_isMissing, s_C_fd5, hS, S0, c16, i10, ap_s, ap_n, and_self, and_true, true_and, if_true, if_false, not_true_eq_false, not_false_eq_true, Int.toNat_natCast]
        · have o3 : ¬ (S : Int) ≤ 0 := by omega
          have o4 : ¬ (S : Int) ≤ 16 := by omega
          simp only [b_D_pairsFound_0, b_D_pairsFound_11, b_D_pairsFound_18, b_D_pairsFound_21, b_D_pairsFound_27, b_D_pairsFound_33, b_D_rowFound_0, b_D_rowFound_6, b_D_rowFound_9, b_D_rowFound_11, b_D_rowFound_17, b_D_rowFound_22, b_D_rowFound_25, b_D_rowFound_27, s_D_in, e1, hS2, S1, tm, o2, o3, o4, r0, r6, i10, ap_s, ap_n, and_self, and_true, true_and, if_true, if_false, not_true_eq_false, not_false_eq_true, Int.toNat_natCast]
          exact s_D_prX hr (by decide)
      · have drop : ∀ (d : Nat) (Q : Option AV → AMem → Prop) (sc : SC) (I' J' : TI) (x : Int), I' 40 = I 40 → (X d m_D_pairsFound 11 [some (vr 39 0), some (vi (r : Int)), none, none] [vi x] (MM sc I' J') Q ↔ X d m_D_pairsFound 35 [some (vr 39 0), some (vi (r : Int)), some (vi x), none] [] (MM sc I' J') Q) := fun d Q sc I' J' x e1 => by
          simp only [b_D_pairsFound_11, b_D_pairsFound_18, b_D_pairsFound_21, b_D_pairsFound_27, e1, hS2, tm, o2, r0, r6, i10, ap_s, ap_n, and_self, and_true, true_and, if_true, if_false, not_true_eq_false, not_false_eq_true, Int.toNat_natCast]
          split <;> exact Iff.rfl
        by_cases cP : ∀ q, q < S → prP (I 29 r) q
        · have c27 : ∀ q, q < S → 0 ≤ I 29 r q ∧ I 29 r q ≤ 27 := fun q hq => by
            have := cP q hq
            unfold prP at this
            by_cases z : q % 2 = 0
            · rw [if_pos z] at this; omega
            · rw [if_neg z] at this; omega
          rcases rowchk h hr 0 16 0 27 with ⟨f, f1, f6, hC, hD⟩ | ⟨S', s1, s2, s3, s4, s5, s6, s7, hC, hD⟩
          · exfalso
            have t1 := hC 0 (fun r _ => r = some (vi 0)) (0, fun _ => 0)
            have f1' : ¬ (S : Int) < 0 := S0
            have t2 : X (0 + 2) m_C_refusalOfRow 0 [some (vr 0 0), some (vr 28 r), some (vi 0), some (vi 16), some (vi 0), some (vi 27), none] [] (MM (0, fun _ => 0) I J) (fun r _ => r = some (vi 0)) := by
              have f2 : (S : Int) ≤ 16 := by omega
              simp only [b_C_refusalOfRow_0, b_C_refusalOfRow_4, b_C_refusalOfRow_7, b_C_refusalOfRow_12, b_C_refusalOfRow_13, b_C_refusalOfRow_21, b_C_refusalOfRow_29, b_C_refusalOfRow_34, b_C_refusalOfRow_35, s_R_isMissing, hS, S0, f2, i10, ap_s, ap_n, and_self, and_true, true_and, if_true, if_false, not_true_eq_false, not_false_eq_true, Int.toNat_natCast]
              exact ((l_C_ref hl hS S 0 (by omega)).1 (fun q _ h2 => c27 q h2)).mpr rfl
            have t3 := t1.mp t2
            exact absurd t3 (by simp [vi])
          · refine Or.inr ⟨S / 2, by omega, by omega, by omega, fun q hq => cP q (by omega), fun q hq => k4 q (by omega), fun d Q sc => ?_, fun d Q sc I' J' e1 e2 => ?_⟩
            · simp only [b_C_refusalOfPairs_0, b_C_refusalOfPairs_4, b_C_refusalOfPairs_7, b_C_refusalOfPairs_12, b_C_refusalOfPairs_13, b_C_refusalOfPairs_22, b_C_refusalOfPairs_31, b_C_refusalOfPairs_36, b_C_refusalOfPairs_37, s_R_isMissing, hS, S0, tm, o1, c16, i10, ap_s, ap_n, and_self, and_true, true_and, if_true, if_false, not_true_eq_false, not_false_eq_true, Int.toNat_natCast]
              exact (l_C_pr hl hS S 0 none (by omega)).1 (fun q _ h2 => cP q h2)
            · rw [b_D_pairsFound_0, hD _ _ sc I' J' e1 e2, ap_s, drop _ _ _ _ _ _ e1, b_D_pairsFound_35]
              refine (l_D_pr (S := S) hr (by omega) (by rw [e1]; exact hS2) (S / 2) 0 (by omega)).1 (fun q _ h2 h3 => ?_)
              have := cP q h2
              unfold prP at this
              rw [if_pos (by omega), k4 q (by omega)] at this
              rw [e2]
              exact this.2
        · refine Or.inl ⟨3, by omega, by omega, fun d Q sc => ?_, fun d Q sc I' J' e1 e2 => ?_⟩
          · simp only [b_C_refusalOfPairs_0, b_C_refusalOfPairs_4, b_C_refusalOfPairs_7, b_C_refusalOfPairs_12, b_C_refusalOfPairs_13, b_C_refusalOfPairs_22, b_C_refusalOfPairs_31, b_C_refusalOfPairs_36, b_C_refusalOfPairs_37, s_R_isMissing, hS, S0, tm, o1, c16, i10, ap_s, ap_n, and_self, and_true, true_and, if_true, if_false, not_true_eq_false, not_false_eq_true, Int.toNat_natCast]
            exact (l_C_pr hl hS S 0 none (by omega)).2 (fun z => cP (fun q hq => z q (by omega) hq))
          · have o4 : (S : Int) ≤ 16 := by omega
            rw [b_D_pairsFound_0]
            by_cases c27 : ∀ q, 0 ≤ q → q < S → 0 ≤ I' 41 0 (40 * r + q) ∧ I' 41 0 (40 * r + q) ≤ 27
            · have := (l_D_ref (d := d) (sc := sc) (I := I') (J := J') (a := 0) (b := 16) (Q := fun r' mm => X (d + 1 + 1) m_D_pairsFound 11 [some (vr 39 0), some (vi (r : Int)), none, none] (r'.toList ++ []) mm Q) (n := S) hr (by omega) (by rw [e1]; exact hS2) S 0 (by omega)).1 c27
              simp only [b_D_rowFound_0, b_D_rowFound_6, b_D_rowFound_9, b_D_rowFound_11, b_D_rowFound_17, b_D_rowFound_22, b_D_rowFound_25, b_D_rowFound_27, s_D_in, e1, hS2, S1, o4, r0, r6, i10, ap_s, ap_n, and_self, and_true, true_and, if_true, if_false, not_true_eq_false, not_false_eq_true, Int.toNat_natCast]
              refine this.trans ?_
              rw [ap_s, drop _ _ _ _ _ _ e1, b_D_pairsFound_35]
              refine (l_D_pr (S := S) hr (by omega) (by rw [e1]; exact hS2) (S / 2) 0 (by omega)).2 (fun w => cP (fun q hq => ?_))
              have a1 := c27 q (by omega) hq
              unfold prP
              rw [k4 q (by omega), ← e2]
              refine ⟨a1.1, ?_⟩
              by_cases z : q % 2 = 0
              · rw [if_pos z]
                exact w q (by omega) hq (by omega)
              · rw [if_neg z]
                exact a1.2
            · have := (l_D_ref (d := d) (sc := sc) (I := I') (J := J') (a := 0) (b := 16) (Q := fun r' mm => X (d + 1 + 1) m_D_pairsFound 11 [some (vr 39 0), some (vi (r : Int)), none, none] (r'.toList ++ []) mm Q) (n := S) hr (by omega) (by rw [e1]; exact hS2) S 0 (by omega)).2.1 c27
              simp only [b_D_rowFound_0, b_D_rowFound_6, b_D_rowFound_9, b_D_rowFound_11, b_D_rowFound_17, b_D_rowFound_22, b_D_rowFound_25, b_D_rowFound_27, s_D_in, e1, hS2, S1, o4, r0, r6, i10, ap_s, ap_n, and_self, and_true, true_and, if_true, if_false, not_true_eq_false, not_false_eq_true, Int.toNat_natCast]
              refine this.trans ?_
              rw [ap_s, drop _ _ _ _ _ _ e1]
              exact s_D_prX hr (by decide)
end KI
