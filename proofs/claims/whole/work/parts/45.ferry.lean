/-! TEXTS THAT ARE FERRIES -/
def kb (x : Int) : Int := if x = 112 then 0 else if x = 98 then 1 else if x = 108 then 2 else if x = 119 then 3 else if x = 115 then 4 else if x = 99 then 5 else -1
def isS (s x : Int) : Int := if s = 0 then (if 0 ≤ kb x then 1 else 0) else if 48 ≤ x ∧ x ≤ (if s = 4 then 49 else 57) then 1 else 0
def pf (f : Nat → Int) (S : Int) : Nat → Int → Int → Nat → Int
  | 0, it, s, _ => if 0 < s ∨ it = 0 then S else -9
  | n + 1, it, s, i => if s = 0 ∧ f i = 32 then pf f S n it 0 (i + 1) else if it = 6 ∨ isS s (f i) = 0 then (i : Int) else if s + 1 = 5 then pf f S n (it + 1) 0 (i + 1) else pf f S n it (s + 1) (i + 1)
theorem kb_in (x : Int) : kb x = -1 ∨ (0 ≤ kb x ∧ kb x ≤ 5) := by
  unfold kb
  (repeat' split) <;> omega
theorem isS_d {j x : Int} (hj : 1 ≤ j) (h : isS j x ≠ 0) : 48 ≤ x ∧ x ≤ 57 ∧ (j = 4 → x ≤ 49) := by
  unfold isS at h
  rw [if_neg (by omega)] at h
  by_cases c : 48 ≤ x ∧ x ≤ (if j = 4 then 49 else 57)
  · by_cases c4 : j = 4
    · rw [if_pos c4] at c; omega
    · rw [if_neg c4] at c; omega
  · rw [if_neg c] at h; omega
section FE
variable {d : Nat} {Q : Option AV → AMem → Prop} {sc : SC} {I J : TI}
theorem s_D_kb {x : Int} : X d m_D_kindBy 0 [some (vi x)] [] (MM sc I J) Q ↔ Q (some (vi (kb x))) (MM sc I J) := s_D_kindBy
theorem s_K_kb {x : Int} (h : 0 ≤ kb x) : X d m_K_ofLetter 0 [some (vi x)] [] (MM sc I J) Q ↔ Q (some (vi (kb x))) (MM sc I J) := by
  rw [s_K_ofLetter]
  unfold kb at *
  (repeat' split) <;> first | rfl | (exfalso; omega) | (simp_all; done)
theorem s_C_isSignOfItem {s x : Int} : X (d + 1) m_C_isSignOfItem 0 [some (vi s), some (vi x)] [] (MM sc I J) Q ↔ Q (some (vi (isS s x))) (MM sc I J) := by
  simp only [b_C_isSignOfItem_0, b_C_isSignOfItem_4, b_C_isSignOfItem_8, b_C_isSignOfItem_13, b_C_isSignOfItem_17, b_C_isSignOfItem_18, b_C_isSignOfItem_19, b_C_isSignOfItem_25, b_C_isSignOfItem_31, b_C_isSignOfItem_36, b_C_isSignOfItem_38, b_C_isSignOfItem_41, b_C_isSignOfItem_45, b_C_isSignOfItem_46, s_K_ofLetter, i10, ap_s, ap_n, and_self, and_true, true_and, if_true, if_false, not_true_eq_false, not_false_eq_true, Int.toNat_natCast, isS]
  by_cases c : s = 0
  · simp only [c, if_true]
    unfold kb
    (repeat' split) <;> first | (simp; done) | (exfalso; omega)
  · simp only [c, if_false]
    by_cases c4 : s = 4
    · simp only [c4, if_true]
      (repeat' split) <;> first | (simp; done) | (exfalso; omega)
    · simp only [c4, if_false]
      (repeat' split) <;> first | (simp; done) | (exfalso; omega)
theorem l_C_fault {i0 S : Nat} (hS : S ≤ lenP i0) (hs : I 28 i0 1 = S) : ∀ (n : Nat) (it s : Int) (i : Nat) (o : Option AV), i + n = S → 0 ≤ it → it ≤ 6 → 0 ≤ s → s ≤ 4 → (X (d + 2) m_C_placeOfFault 6 [some (vr 28 i0), some (vi it), some (vi s), some (vi (i : Int)), o] [] (MM sc I J) Q ↔ Q (some (vi (pf (I 29 i0) S n it s i))) (MM sc I J))
  | 0, it, s, i, o, e, _, _, _, _ => by
    rw [b_C_placeOfFault_6, hs, if_pos (by omega), b_C_placeOfFault_72, b_C_placeOfFault_76, b_C_placeOfFault_80, b_C_placeOfFault_87, b_C_placeOfFault_89, b_C_placeOfFault_89, hs]
    unfold pf
    by_cases c1 : 0 < s
    · simp [c1]
    · by_cases c2 : it = 0
      · simp [c1, c2]
      · simp [c1, c2]
  | n + 1, it, s, i, o, e, h1, h2, h3, h4 => by
    have hl := lenP_le i0
    have c1 : ¬ ((S : Int) ≤ i) := by omega
    have c2 : 0 ≤ (i : Int) ∧ (i : Int) < ((lenP i0 : Nat) : Int) := by omega
    rw [b_C_placeOfFault_6, hs, if_neg c1, b_C_placeOfFault_14, and_iff_right c2, b_C_placeOfFault_20, Int.toNat_natCast, b_C_placeOfFault_26, b_C_placeOfFault_33, b_C_placeOfFault_66, b_C_placeOfFault_36, b_C_placeOfFault_51, b_C_placeOfFault_42, s_C_isSignOfItem, ap_s, b_C_placeOfFault_48, b_C_placeOfFault_51, b_C_placeOfFault_53, b_C_placeOfFault_61, b_C_placeOfFault_66, b_C_placeOfFault_66, wsuc (by omega), w32_eq (x := s + 1) (by omega) (by omega), w32_eq (x := it + 1) (by omega) (by omega)]
    unfold pf
    by_cases q1 : s = 0
    · subst q1
      by_cases q2 : I 29 i0 i = 32
      · rw [if_pos rfl, if_pos q2, if_pos ⟨rfl, q2⟩]
        exact l_C_fault hS hs n it 0 (i + 1) _ (by omega) h1 h2 (by omega) (by omega)
      · have z : ¬ ((0 : Int) = 0 ∧ I 29 i0 i = 32) := fun z => q2 z.2
        rw [if_pos rfl, if_neg q2, if_neg z]
        by_cases q3 : it = 6
        · rw [if_pos q3, if_pos (Or.inl q3)]
        · by_cases q4 : isS 0 (I 29 i0 i) = 0
          · rw [if_neg q3, if_pos q4, if_pos (Or.inr q4)]
          · have z2 : ¬ (it = 6 ∨ isS 0 (I 29 i0 i) = 0) := by omega
            have z3 : ¬ ((0 : Int) + 1 = 5) := by omega
            rw [if_neg q3, if_neg q4, if_neg z2, if_neg z3, if_neg z3]
            exact l_C_fault hS hs n it (0 + 1) (i + 1) _ (by omega) h1 h2 (by omega) (by omega)
    · have z : ¬ (s = 0 ∧ I 29 i0 i = 32) := fun z => q1 z.1
      rw [if_neg q1, if_neg z]
      by_cases q3 : it = 6
      · rw [if_pos q3, if_pos (Or.inl q3)]
      · by_cases q4 : isS s (I 29 i0 i) = 0
        · rw [if_neg q3, if_pos q4, if_pos (Or.inr q4)]
        · have z2 : ¬ (it = 6 ∨ isS s (I 29 i0 i) = 0) := by omega
          rw [if_neg q3, if_neg q4, if_neg z2]
          by_cases q5 : s + 1 = 5
          · rw [if_pos q5, if_pos q5]
            exact l_C_fault hS hs n (it + 1) 0 (i + 1) _ (by omega) (by omega) (by omega) (by omega) (by omega)
          · rw [if_neg q5, if_neg q5]
            exact l_C_fault hS hs n it (s + 1) (i + 1) _ (by omega) h1 h2 (by omega) (by omega)
theorem s_C_placeOfFault {i0 S : Nat} (hS : S ≤ lenP i0) (hs : I 28 i0 1 = S) : X (d + 2) m_C_placeOfFault 0 [some (vr 28 i0), none, none, none, none] [] (MM sc I J) Q ↔ Q (some (vi (pf (I 29 i0) S S 0 0 0))) (MM sc I J) := by
  rw [b_C_placeOfFault_0]
  exact l_C_fault hS hs S 0 0 0 _ (by omega) (by omega) (by omega) (by omega) (by omega)
/-- what the reference has read of a text -/
def rdM (I : TI) (it : Int) (K R : Nat → Int) : TI := fun t i p => if t = 39 ∧ i = 0 ∧ p = 17 then it else if t = 58 ∧ i = 0 then K p else if t = 59 ∧ i = 0 then R p else I t i p
theorem rdM_k {it v : Int} {K R : Nat → Int} {q : Nat} : upI (rdM I it K R) 58 0 q v = rdM I it (upF K q v) R := by
  funext t i p
  simp only [rd_up, rdM, upF]
  (repeat' split) <;> first | rfl | (exfalso; omega)
theorem rdM_r {it v : Int} {K R : Nat → Int} {q : Nat} : upI (rdM I it K R) 59 0 q v = rdM I it K (upF R q v) := by
  funext t i p
  simp only [rd_up, rdM, upF]
  (repeat' split) <;> first | rfl | (exfalso; omega)
theorem rdM_n {it v : Int} {K R : Nat → Int} : upI (rdM I it K R) 39 0 17 v = rdM I v K R := by
  funext t i p
  simp only [rd_up, rdM]
  (repeat' split) <;> first | rfl | (exfalso; omega)
theorem st_D {f : Nat → Int} {r S i k : Nat} (hr : r < 4) (hS : S ≤ 60) (hf : ∀ p, p < S → I 43 0 (60 * r + p) = f p) (hk1 : 1 ≤ k) (hk : k ≤ 4) (hi : i + k ≤ S) : X (d + 1) m_D_reading 100 [some (vr 39 0), some (vi (r : Int)), some (vi ((60 * r : Nat) : Int)), some (vi (S : Int)), some (vi (i : Int)), some (vi (k : Int))] [] (MM sc I J) Q ↔ if i + k = S then Q (some (vi ((i + k : Nat) : Int))) (MM sc I J) else if isS k (f (i + k)) = 0 then Q (some (vi ((i + k : Nat) : Int))) (MM sc I J) else X (d + 1) m_D_reading 100 [some (vr 39 0), some (vi (r : Int)), some (vi ((60 * r : Nat) : Int)), some (vi (S : Int)), some (vi (i : Int)), some (vi ((k + 1 : Nat) : Int))] [] (MM sc I J) Q := by
  have e1 : w32 ((i : Int) + (k : Int)) = ((i + k : Nat) : Int) := by rw [w32_eq (by omega) (by omega)]; omega
  have e2 : w32 (w32 (((60 * r : Nat) : Int) + (i : Int)) + (k : Int)) = ((60 * r + (i + k) : Nat) : Int) := by rw [w32_eq (x := ((60 * r : Nat) : Int) + (i : Int)) (by omega) (by omega), w32_eq (by omega) (by omega)]; omega
  rw [b_D_reading_100, if_neg (by omega), b_D_reading_106, e1, b_D_reading_148, e1]
  by_cases c : i + k = S
  · rw [if_pos (by omega), if_pos c]
  · rw [if_neg (by omega), if_neg c, b_D_reading_115, e2, and_iff_right (by omega), b_D_reading_127, Int.toNat_natCast, hf (i + k) (by omega)]
    unfold isS
    rw [if_neg (show ¬ (k : Int) = 0 by omega)]
    by_cases c4 : (k : Int) = 4
    · rw [if_pos c4, if_pos c4, b_D_reading_135, b_D_reading_142, s_D_in, ap_s, b_D_reading_145, b_D_reading_148, e1, b_D_reading_154, wsuc (by omega)]
    · rw [if_neg c4, if_neg c4, b_D_reading_140, b_D_reading_142, s_D_in, ap_s, b_D_reading_145, b_D_reading_148, e1, b_D_reading_154, wsuc (by omega)]
def vk (f : Nat → Int) (S : Int) (it : Int) (i k n : Nat) : Int := if k = 5 then pf f S n (it + 1) 0 (i + 5) else pf f S n it k (i + k)
theorem tl_D {f : Nat → Int} {r S i : Nat} {it : Int} (hr : r < 4) (hS : S ≤ 60) (h6 : it ≠ 6) : ∀ (m k n : Nat), k + m = 5 → 1 ≤ k → i + k + n = S → ((∀ (d : Nat) (Q : Option AV → AMem → Prop) (sc : SC) (J I : TI), (∀ p, p < S → I 43 0 (60 * r + p) = f p) → (X (d + 1) m_D_reading 100 [some (vr 39 0), some (vi (r : Int)), some (vi ((60 * r : Nat) : Int)), some (vi (S : Int)), some (vi (i : Int)), some (vi (k : Int))] [] (MM sc I J) Q ↔ Q (some (vi (vk f S it i k n))) (MM sc I J))) ∧ vk f S it i k n ≠ -9) ∨ (∃ n', n = n' + m ∧ (∀ j : Nat, k ≤ j → j ≤ 4 → isS j (f (i + j)) ≠ 0) ∧ vk f S it i k n = pf f S n' (it + 1) 0 (i + 5) ∧ ∀ (d : Nat) (Q : Option AV → AMem → Prop) (sc : SC) (J I : TI), (∀ p, p < S → I 43 0 (60 * r + p) = f p) → (X (d + 1) m_D_reading 100 [some (vr 39 0), some (vi (r : Int)), some (vi ((60 * r : Nat) : Int)), some (vi (S : Int)), some (vi (i : Int)), some (vi (k : Int))] [] (MM sc I J) Q ↔ X (d + 1) m_D_reading 160 [some (vr 39 0), some (vi (r : Int)), some (vi ((60 * r : Nat) : Int)), some (vi (S : Int)), some (vi (i : Int)), some (vi 5)] [] (MM sc I J) Q))
  | 0, k, n, e, _, _ => by
    have e1 : k = 5 := by omega
    subst e1
    refine Or.inr ⟨n, rfl, fun j h1 h2 => by omega, if_pos rfl, fun d Q sc J I hf => ?_⟩
    rw [b_D_reading_100, if_pos (by omega)]
    exact Iff.rfl
  | m + 1, k, 0, e, h1, h2 => by
    have e0 : vk f S it i k 0 = ((i + k : Nat) : Int) := by
      unfold vk pf
      rw [if_neg (by omega), if_pos (Or.inl (by omega))]
      omega
    refine Or.inl ⟨fun d Q sc J I hf => ?_, by rw [e0]; omega⟩
    rw [st_D hr hS hf h1 (by omega) (by omega), if_pos (by omega), e0]
  | m + 1, k, n + 1, e, h1, h2 => by
    by_cases c : isS k (f (i + k)) = 0
    · have e0 : vk f S it i k (n + 1) = ((i + k : Nat) : Int) := by
        unfold vk pf
        rw [if_neg (by omega), if_neg (by omega), if_pos (Or.inr c)]
      refine Or.inl ⟨fun d Q sc J I hf => ?_, by rw [e0]; omega⟩
      rw [st_D hr hS hf h1 (by omega) (by omega), if_neg (by omega), if_pos c, e0]
    · have e0 : vk f S it i k (n + 1) = vk f S it i (k + 1) n := by
        unfold vk
        rw [if_neg (show ¬ k = 5 by omega), pf, if_neg (by omega), if_neg (by omega)]
        by_cases q : k = 4
        · subst q
          rfl
        · rw [if_neg (by omega), if_neg (by omega)]
          rfl
      rcases tl_D (f := f) (i := i) (it := it) hr hS h6 m (k + 1) n (by omega) (by omega) (by omega) with ⟨g1, g2⟩ | ⟨n', g1, g2, g3, g4⟩
      · refine Or.inl ⟨fun d Q sc J I hf => ?_, by rw [e0]; exact g2⟩
        rw [st_D hr hS hf h1 (by omega) (by omega), if_neg (by omega), if_neg c, e0]
        exact g1 d Q sc J I hf
      · refine Or.inr ⟨n', by omega, fun j j1 j2 => ?_, by rw [e0]; exact g3, fun d Q sc J I hf => ?_⟩
        · by_cases q : j = k
          · subst q; exact c
          · exact g2 j (by omega) j2
        · rw [st_D hr hS hf h1 (by omega) (by omega), if_neg (by omega), if_neg c]
          exact g4 d Q sc J I hf
theorem it_D3 {f K R : Nat → Int} {r S i k it : Nat} (hr : r < 4) (hS : S ≤ 60) (hf : ∀ p, p < S → I 43 0 (60 * r + p) = f p) (hk : k < 3) (hi : i + 5 ≤ S) (hit : it < 6) (hd : 48 ≤ f (i + 1 + k) ∧ f (i + 1 + k) ≤ 57) : X d m_D_reading 184 [some (vr 39 0), some (vi (r : Int)), some (vi ((60 * r : Nat) : Int)), some (vi (S : Int)), some (vi (i : Int)), some (vi (k : Int))] [] (MM sc (rdM I it K R) J) Q ↔ X d m_D_reading 184 [some (vr 39 0), some (vi (r : Int)), some (vi ((60 * r : Nat) : Int)), some (vi (S : Int)), some (vi (i : Int)), some (vi ((k + 1 : Nat) : Int))] [] (MM sc (rdM I it K (upF R (1 + 3 * it + k) (f (i + 1 + k) - 48))) J) Q := by
  have e2 : w32 (w32 (w32 (((60 * r : Nat) : Int) + (i : Int)) + 1) + (k : Int)) = ((60 * r + (i + 1 + k) : Nat) : Int) := by rw [w32_eq (x := ((60 * r : Nat) : Int) + (i : Int)) (by omega) (by omega), w32_eq (x := ((60 * r : Nat) : Int) + (i : Int) + 1) (by omega) (by omega), w32_eq (by omega) (by omega)]; omega
  have e3 : w32 (w32 (1 + w32 (3 * (it : Int))) + (k : Int)) = ((1 + 3 * it + k : Nat) : Int) := by rw [w32_eq (x := 3 * (it : Int)) (by omega) (by omega), w32_eq (x := 1 + 3 * (it : Int)) (by omega) (by omega), w32_eq (by omega) (by omega)]; omega
  rw [b_D_reading_184, if_neg (by omega), b_D_reading_190, e2, and_iff_right (by omega), show rdM I it K R 39 0 17 = it from rfl, show rdM I it K R 43 = I 43 from rfl, e3, b_D_reading_219, and_iff_right (by omega), b_D_reading_223, Int.toNat_natCast, Int.toNat_natCast, hf _ (by omega), w32_eq (x := f (i + 1 + k) - 48) (by omega) (by omega), wsuc (by omega), rdM_r]
/-- the item that both have read -/
def itR (f R : Nat → Int) (i it : Nat) : Nat → Int := upF (upF (upF (upF R (1 + 3 * it + 0) (f (i + 1 + 0) - 48)) (1 + 3 * it + 1) (f (i + 1 + 1) - 48)) (1 + 3 * it + 2) (f (i + 1 + 2) - 48)) (19 + it) (f (i + 4) - 48)
theorem it_D {f K R : Nat → Int} {r S i it : Nat} (hr : r < 4) (hS : S ≤ 60) (hf : ∀ p, p < S → I 43 0 (60 * r + p) = f p) (hi : i + 5 ≤ S) (hit : it < 6) (hd : ∀ j : Nat, 1 ≤ j → j ≤ 4 → 48 ≤ f (i + j) ∧ f (i + j) ≤ 57) : X (d + 1) m_D_reading 160 [some (vr 39 0), some (vi (r : Int)), some (vi ((60 * r : Nat) : Int)), some (vi (S : Int)), some (vi (i : Int)), some (vi 5)] [] (MM sc (rdM I it K R) J) Q ↔ X (d + 1) m_D_reading 44 [some (vr 39 0), some (vi (r : Int)), some (vi ((60 * r : Nat) : Int)), some (vi (S : Int)), some (vi ((i + 5 : Nat) : Int)), some (vi 3)] [] (MM sc (rdM I ((it + 1 : Nat) : Int) (upF K it (kb (f i))) (itR f R i it)) J) Q := by
  have e1 : w32 (((60 * r : Nat) : Int) + (i : Int)) = ((60 * r + i : Nat) : Int) := by rw [w32_eq (by omega) (by omega)]; omega
  have e4 : w32 (((60 * r + i : Nat) : Int) + 4) = ((60 * r + (i + 4) : Nat) : Int) := by rw [w32_eq (by omega) (by omega)]; omega
  have e5 : w32 (19 + (it : Int)) = ((19 + it : Nat) : Int) := by rw [w32_eq (by omega) (by omega)]; omega
  have e6 : w32 ((i : Int) + 5) = ((i + 5 : Nat) : Int) := by rw [w32_eq (by omega) (by omega)]; omega
  have t1 := it_D3 (d := d + 1) (Q := Q) (sc := sc) (J := J) (K := upF K it (kb (f i))) (R := R) (k := 0) (it := it) (i := i) hr hS hf (by omega) hi hit (hd 1 (by omega) (by omega))
  have t2 := it_D3 (d := d + 1) (Q := Q) (sc := sc) (J := J) (K := upF K it (kb (f i))) (R := upF R (1 + 3 * it + 0) (f (i + 1 + 0) - 48)) (k := 1) (it := it) (i := i) hr hS hf (by omega) hi hit (hd 2 (by omega) (by omega))
  have t3 := it_D3 (d := d + 1) (Q := Q) (sc := sc) (J := J) (K := upF K it (kb (f i))) (R := upF (upF R (1 + 3 * it + 0) (f (i + 1 + 0) - 48)) (1 + 3 * it + 1) (f (i + 1 + 1) - 48)) (k := 2) (it := it) (i := i) hr hS hf (by omega) hi hit (hd 3 (by omega) (by omega))
  rw [b_D_reading_160, e1, and_iff_right (by omega), Int.toNat_natCast, show rdM I it K R 39 0 17 = it from rfl, show rdM I it K R 43 = I 43 from rfl, hf i (by omega), b_D_reading_177, s_D_kb, ap_s, b_D_reading_180, and_iff_right (by omega), Int.toNat_natCast, rdM_k, b_D_reading_181]
  refine (t1.trans (t2.trans t3)).trans ?_
  rw [b_D_reading_184, if_pos (by omega), b_D_reading_229, e1, e4, and_iff_right (by omega), Int.toNat_natCast]
  rw [show ∀ (K R : Nat → Int), rdM I it K R 39 0 17 = it from fun _ _ => rfl, show ∀ (K R : Nat → Int), rdM I it K R 43 = I 43 from fun _ _ => rfl, hf _ (by omega), e5, b_D_reading_251, and_iff_right (by omega), Int.toNat_natCast, w32_eq (x := f (i + 4) - 48) (by have := hd 4 (by omega) (by omega); omega) (by have := hd 4 (by omega) (by omega); omega), rdM_r, b_D_reading_255, show ∀ (K R : Nat → Int), rdM I it K R 39 0 17 = it from fun _ _ => rfl, wsuc (by omega), rdM_n, b_D_reading_265, e6]
  exact Iff.rfl
/-- what the class has boarded -/
def bdM (I : TI) (n : Int) (K L B : Nat → Int) : TI := fun t i p => if t = 20 ∧ i = 0 ∧ p = 7 then n else if t = 21 ∧ i = 0 then K p else if t = 22 ∧ i = 0 then L p else if t = 23 ∧ i = 0 then B p else I t i p
theorem bdM_k {n v : Int} {K L B : Nat → Int} {q : Nat} : upI (bdM I n K L B) 21 0 q v = bdM I n (upF K q v) L B := by
  funext t i p
  simp only [rd_up, bdM, upF]
  (repeat' split) <;> first | rfl | (exfalso; omega)
theorem bdM_l {n v : Int} {K L B : Nat → Int} {q : Nat} : upI (bdM I n K L B) 22 0 q v = bdM I n K (upF L q v) B := by
  funext t i p
  simp only [rd_up, bdM, upF]
  (repeat' split) <;> first | rfl | (exfalso; omega)
theorem bdM_b {n v : Int} {K L B : Nat → Int} {q : Nat} : upI (bdM I n K L B) 23 0 q v = bdM I n K L (upF B q v) := by
  funext t i p
  simp only [rd_up, bdM, upF]
  (repeat' split) <;> first | rfl | (exfalso; omega)
theorem bdM_n {n v : Int} {K L B : Nat → Int} : upI (bdM I n K L B) 20 0 7 v = bdM I v K L B := by
  funext t i p
  simp only [rd_up, bdM]
  (repeat' split) <;> first | rfl | (exfalso; omega)
theorem s_F_board {it : Nat} {k l b : Int} {K L B : Nat → Int} (h : it < 6) : X d m_F_board 0 [some (vr 20 0), some (vi k), some (vi l), some (vi b)] [] (MM sc (bdM I it K L B) J) Q ↔ Q none (MM sc (bdM I ((it + 1 : Nat) : Int) (upF K it k) (upF L it l) (upF B it b)) J) := by
  have e : ∀ (K L B : Nat → Int), bdM I it K L B 20 0 7 = it := fun _ _ _ => rfl
  rw [b_F_board_0, e, if_neg (by omega), b_F_board_9, e, and_iff_right (by omega), Int.toNat_natCast, bdM_k, b_F_board_19, e, and_iff_right (by omega), Int.toNat_natCast, bdM_l, b_F_board_29, e, and_iff_right (by omega), Int.toNat_natCast, bdM_b, b_F_board_39, e, wsuc (by omega), bdM_n, b_F_board_49]
theorem st_B {f : Nat → Int} {i1 i k : Nat} {L : Int} (hl : ∀ p, p < i + 5 → I 29 i1 p = f p) (hi : i + 5 ≤ lenP i1) (hk : k ≤ 3) (hL : 0 ≤ L ∧ L ≤ 99) (hd : 48 ≤ f (i + k) ∧ f (i + k) ≤ 57) : X d m_C_boardOne 5 [some (vr 0 0), some (vr 28 i1), some (vi (i : Int)), some (vi L), some (vi (k : Int))] [] (MM sc I J) Q ↔ X d m_C_boardOne 5 [some (vr 0 0), some (vr 28 i1), some (vi (i : Int)), some (vi (10 * L + (f (i + k) - 48))), some (vi ((k + 1 : Nat) : Int))] [] (MM sc I J) Q := by
  have hle := lenP_le i1
  have e1 : w32 ((i : Int) + (k : Int)) = ((i + k : Nat) : Int) := by rw [w32_eq (by omega) (by omega)]; omega
  rw [b_C_boardOne_5, if_neg (by omega), b_C_boardOne_11, e1, and_iff_right (by omega), Int.toNat_natCast, hl _ (by omega), b_C_boardOne_24, wsuc (by omega), w32_eq (x := 10 * L) (by omega) (by omega), w32_eq (x := 10 * L + f (i + k)) (by omega) (by omega), w32_eq (by omega) (by omega), show 10 * L + f (i + k) - 48 = 10 * L + (f (i + k) - 48) by omega]
def ltI (f : Nat → Int) (i : Nat) : Int := 10 * (10 * (10 * 0 + (f (i + 1) - 48)) + (f (i + 2) - 48)) + (f (i + 3) - 48)
theorem s_C_boardOne {f K L B : Nat → Int} {i1 i it : Nat} (hl : ∀ p, p < i + 5 → I 29 i1 p = f p) (hi : i + 5 ≤ lenP i1) (hit : it < 6) (hk : 0 ≤ kb (f i)) (hd : ∀ j : Nat, 1 ≤ j → j ≤ 4 → 48 ≤ f (i + j) ∧ f (i + j) ≤ 57) : X (d + 1) m_C_boardOne 0 [some (vr 0 0), some (vr 28 i1), some (vi (i : Int)), none, none] [] (MM sc (bdM I it K L B) J) Q ↔ Q none (MM sc (bdM I ((it + 1 : Nat) : Int) (upF K it (kb (f i))) (upF L it (ltI f i)) (upF B it (f (i + 4) - 48))) J) := by
  have hle := lenP_le i1
  have d1 := hd 1 (by omega) (by omega)
  have d2 := hd 2 (by omega) (by omega)
  have d3 := hd 3 (by omega) (by omega)
  have d4 := hd 4 (by omega) (by omega)
  have e6 : w32 (w32 ((i : Int) + 5) - 1) = ((i + 4 : Nat) : Int) := by rw [w32_eq (x := (i : Int) + 5) (by omega) (by omega), w32_eq (by omega) (by omega)]; omega
  have hl' : ∀ p, p < i + 5 → bdM I it K L B 29 i1 p = f p := hl
  have t1 := st_B (d := d + 1) (Q := Q) (sc := sc) (J := J) (k := 1) (L := 0) hl' hi (by omega) (by omega) d1
  have t2 := st_B (d := d + 1) (Q := Q) (sc := sc) (J := J) (k := 2) (L := 10 * 0 + (f (i + 1) - 48)) hl' hi (by omega) (by omega) d2
  have t3 := st_B (d := d + 1) (Q := Q) (sc := sc) (J := J) (k := 3) (L := 10 * (10 * 0 + (f (i + 1) - 48)) + (f (i + 2) - 48)) hl' hi (by omega) (by omega) d3
  rw [b_C_boardOne_0]
  refine (t1.trans (t2.trans t3)).trans ?_
  rw [b_C_boardOne_5, if_pos (by omega), b_C_boardOne_35, and_iff_right (by omega), Int.toNat_natCast, hl' _ (by omega), b_C_boardOne_45, s_K_kb hk, ap_s, b_C_boardOne_48, e6, and_iff_right (by omega), Int.toNat_natCast, hl' _ (by omega), b_C_boardOne_59, w32_eq (x := f (i + 4) - 48) (by omega) (by omega), s_F_board hit, ap_n, b_C_boardOne_65]
  exact Iff.rfl
def Rel (it : Nat) (K R K2 L2 B2 : Nat → Int) : Prop := R 0 = 0 ∧ ∀ j : Nat, j < it → (K2 j = K j ∧ 0 ≤ K j ∧ K j ≤ 5) ∧ L2 j = lf3 R j ∧ B2 j = R (19 + j) ∧ (0 ≤ R (1 + 3 * j) ∧ R (1 + 3 * j) ≤ 9) ∧ (0 ≤ R (2 + 3 * j) ∧ R (2 + 3 * j) ≤ 9) ∧ (0 ≤ R (3 + 3 * j) ∧ R (3 + 3 * j) ≤ 9) ∧ (R (19 + j) = 0 ∨ R (19 + j) = 1)
theorem rel_it {f K R K2 L2 B2 : Nat → Int} {i it : Nat} (hit : it < 6) (h : Rel it K R K2 L2 B2) (hk : 0 ≤ kb (f i)) (hd : ∀ j : Nat, 1 ≤ j → j ≤ 4 → 48 ≤ f (i + j) ∧ f (i + j) ≤ 57) (h4 : f (i + 4) ≤ 49) : Rel (it + 1) (upF K it (kb (f i))) (itR f R i it) (upF K2 it (kb (f i))) (upF L2 it (ltI f i)) (upF B2 it (f (i + 4) - 48)) := by
  have d1 := hd 1 (by omega) (by omega)
  have d2 := hd 2 (by omega) (by omega)
  have d3 := hd 3 (by omega) (by omega)
  have d4 := hd 4 (by omega) (by omega)
  have kk := kb_in (f i)
  have rd : ∀ q : Nat, itR f R i it q = if q = 19 + it then f (i + 4) - 48 else if q = 3 + 3 * it then f (i + 3) - 48 else if q = 2 + 3 * it then f (i + 2) - 48 else if q = 1 + 3 * it then f (i + 1) - 48 else R q := fun q => by
    simp only [itR, upF, show 1 + 3 * it + 2 = 3 + 3 * it by omega, show 1 + 3 * it + 1 = 2 + 3 * it by omega, Nat.add_zero, Nat.add_assoc, show (1 : Nat) + 1 = 2 from rfl, show (1 : Nat) + 2 = 3 from rfl]
  refine ⟨?_, fun j hj => ?_⟩
  · rw [rd, if_neg (by omega), if_neg (by omega), if_neg (by omega), if_neg (by omega)]
    exact h.1
  · have r1 : itR f R i it (1 + 3 * j) = if j = it then f (i + 1) - 48 else R (1 + 3 * j) := by
      rw [rd, if_neg (by omega), if_neg (by omega), if_neg (by omega)]
      by_cases c : j = it
      · rw [if_pos c, if_pos (by omega)]
      · rw [if_neg c, if_neg (by omega)]
    have r2 : itR f R i it (2 + 3 * j) = if j = it then f (i + 2) - 48 else R (2 + 3 * j) := by
      rw [rd, if_neg (by omega), if_neg (by omega)]
      by_cases c : j = it
      · rw [if_pos c, if_pos (by omega)]
      · rw [if_neg c, if_neg (by omega), if_neg (by omega)]
    have r3 : itR f R i it (3 + 3 * j) = if j = it then f (i + 3) - 48 else R (3 + 3 * j) := by
      rw [rd, if_neg (by omega)]
      by_cases c : j = it
      · rw [if_pos c, if_pos (by omega)]
      · rw [if_neg c, if_neg (by omega), if_neg (by omega), if_neg (by omega)]
    have r4 : itR f R i it (19 + j) = if j = it then f (i + 4) - 48 else R (19 + j) := by
      rw [rd]
      by_cases c : j = it
      · rw [if_pos c, if_pos (by omega)]
      · rw [if_neg c, if_neg (by omega), if_neg (by omega), if_neg (by omega), if_neg (by omega)]
    simp only [lf3, r1, r2, r3, r4, upF]
    by_cases c : j = it
    · simp only [c, if_true, ltI]
      refine ⟨⟨trivial, by omega, by omega⟩, by omega, trivial, by omega, by omega, by omega, by omega⟩
    · simp only [c, if_false]
      exact h.2 j (by omega)
theorem rdL {f : Nat → Int} {r S i1 : Nat} {IC : TI} (hr : r < 4) (hS : S ≤ 60) (hC : ∀ p, p < S → IC 29 i1 p = f p) (hs : IC 28 i1 1 = S) (hl : S ≤ lenP i1) : ∀ (N n it i : Nat) (K R : Nat → Int) (x5 : Int), n ≤ N → i + n = S → it ≤ 6 → ∃ (it' : Nat) (K' R' : Nat → Int), it' ≤ 6 ∧ (∀ (d : Nat) (Q : Option AV → AMem → Prop) (sc : SC) (J ID : TI), (∀ p, p < S → ID 43 0 (60 * r + p) = f p) → (X (d + 1) m_D_reading 44 [some (vr 39 0), some (vi (r : Int)), some (vi ((60 * r : Nat) : Int)), some (vi (S : Int)), some (vi (i : Int)), some (vi x5)] [] (MM sc (rdM ID it K R) J) Q ↔ Q (some (vi (pf f S n it 0 i))) (MM sc (rdM ID it' K' R') J))) ∧ (pf f S n it 0 i = -9 → ∀ K2 L2 B2, Rel it K R K2 L2 B2 → ∃ K2' L2' B2', Rel it' K' R' K2' L2' B2' ∧ ∀ (d : Nat) (Q : Option AV → AMem → Prop) (sc : SC) (J : TI), (X (d + 2) m_C_boardAll 9 [some (vr 0 0), some (vr 28 i1), some (vi (i : Int))] [] (MM sc (bdM IC it K2 L2 B2) J) Q ↔ Q none (MM sc (bdM IC it' K2' L2' B2') J))) := by
  have hle := lenP_le i1
  have s28 : ∀ (n : Int) (K L B : Nat → Int), bdM IC n K L B 28 i1 1 = S := fun _ _ _ _ => hs
  have s29 : ∀ (n : Int) (K L B : Nat → Int) (p : Nat), p < S → bdM IC n K L B 29 i1 p = f p := fun _ _ _ _ p hp => hC p hp
  have s43 : ∀ {ID : TI}, (∀ p, p < S → ID 43 0 (60 * r + p) = f p) → ∀ (n : Int) (K R : Nat → Int) (p : Nat), p < S → rdM ID n K R 43 0 (60 * r + p) = f p := fun hD _ _ _ p hp => hD p hp
  have s17 : ∀ (ID : TI) (n : Int) (K R : Nat → Int), rdM ID n K R 39 0 17 = n := fun _ _ _ _ => rfl
  intro N
  induction N with
  | zero =>
    intro n it i K R x5 hn hi hit
    have n0 : n = 0 := by omega
    subst n0
    refine ⟨it, K, R, hit, fun d Q sc J ID hD => ?_, fun _ K2 L2 B2 hR => ⟨K2, L2, B2, hR, fun d Q sc J => ?_⟩⟩
    · rw [b_D_reading_44, if_pos (by omega), b_D_reading_271, s17, b_D_reading_278, b_D_reading_282, b_D_reading_284, b_D_reading_284, pf]
      by_cases c : (it : Int) = 0
      · rw [if_pos c, if_pos (Or.inr c)]
      · rw [if_neg c, if_neg (by omega)]
    · rw [b_C_boardAll_9, s28, w32_eq (by omega) (by omega), if_pos (by omega), b_C_boardAll_48]
  | succ N ih =>
    intro n it i K R x5 hn hi hit
    match n, hn, hi with
    | 0, hn, hi =>
      refine ⟨it, K, R, hit, fun d Q sc J ID hD => ?_, fun _ K2 L2 B2 hR => ⟨K2, L2, B2, hR, fun d Q sc J => ?_⟩⟩
      · rw [b_D_reading_44, if_pos (by omega), b_D_reading_271, s17, b_D_reading_278, b_D_reading_282, b_D_reading_284, b_D_reading_284, pf]
        by_cases c : (it : Int) = 0
        · rw [if_pos c, if_pos (Or.inr c)]
        · rw [if_neg c, if_neg (by omega)]
      · rw [b_C_boardAll_9, s28, w32_eq (by omega) (by omega), if_pos (by omega), b_C_boardAll_48]
    | n + 1, hn, hi =>
      have e1 : w32 (((60 * r : Nat) : Int) + (i : Int)) = ((60 * r + i : Nat) : Int) := by rw [w32_eq (by omega) (by omega)]; omega
      by_cases hb : f i = 32
      · obtain ⟨it', K', R', h1, h2, h3⟩ := ih n it (i + 1) K R x5 (by omega) (by omega) hit
        have e : pf f S (n + 1) it 0 i = pf f S n it 0 (i + 1) := by rw [pf, if_pos ⟨rfl, hb⟩]
        refine ⟨it', K', R', h1, fun d Q sc J ID hD => ?_, fun hm K2 L2 B2 hR => ?_⟩
        · rw [b_D_reading_44, if_neg (by omega), b_D_reading_50, e1, and_iff_right (by omega), Int.toNat_natCast, s43 hD _ _ _ _ (by omega), b_D_reading_59, if_pos hb, b_D_reading_64, wsuc (by omega), h2 d Q sc J ID hD, e]
        · obtain ⟨K2', L2', B2', g1, g2⟩ := h3 (by rw [← e]; exact hm) K2 L2 B2 hR
          refine ⟨K2', L2', B2', g1, fun d Q sc J => ?_⟩
          rw [← g2 d Q sc J]
          by_cases c : n + 1 < 5
          · rw [b_C_boardAll_9, s28, w32_eq (by omega) (by omega), if_pos (by omega), b_C_boardAll_48, b_C_boardAll_9, s28, w32_eq (by omega) (by omega), if_pos (by omega), b_C_boardAll_48]
          · rw [b_C_boardAll_9, s28, w32_eq (by omega) (by omega), if_neg (by omega), b_C_boardAll_19, and_iff_right (by omega), Int.toNat_natCast, s29 _ _ _ _ _ (by omega), b_C_boardAll_25, if_pos hb, b_C_boardAll_30, wsuc (by omega)]
      · by_cases c6 : (it : Int) = 6
        · have e : pf f S (n + 1) it 0 i = i := by rw [pf, if_neg (fun z => hb z.2), if_pos (Or.inl c6)]
          refine ⟨it, K, R, hit, fun d Q sc J ID hD => ?_, fun hm => by rw [e] at hm; omega⟩
          rw [b_D_reading_44, if_neg (by omega), b_D_reading_50, e1, and_iff_right (by omega), Int.toNat_natCast, s43 hD _ _ _ _ (by omega), b_D_reading_59, if_neg hb, b_D_reading_70, s17, if_pos c6, b_D_reading_94, e]
        · by_cases ck : 0 ≤ kb (f i)
          · have e0 : pf f S (n + 1) it 0 i = vk f S it i 1 n := by
              rw [pf, if_neg (fun z => hb z.2), if_neg (by unfold isS; rw [if_pos rfl, if_pos ck]; omega), if_neg (by omega)]
              rfl
            have st : ∀ (d : Nat) (Q : Option AV → AMem → Prop) (sc : SC) (J ID : TI), (∀ p, p < S → ID 43 0 (60 * r + p) = f p) → (X (d + 1) m_D_reading 44 [some (vr 39 0), some (vi (r : Int)), some (vi ((60 * r : Nat) : Int)), some (vi (S : Int)), some (vi (i : Int)), some (vi x5)] [] (MM sc (rdM ID it K R) J) Q ↔ X (d + 1) m_D_reading 100 [some (vr 39 0), some (vi (r : Int)), some (vi ((60 * r : Nat) : Int)), some (vi (S : Int)), some (vi (i : Int)), some (vi ((1 : Nat) : Int))] [] (MM sc (rdM ID it K R) J) Q) := fun d Q sc J ID hD => by
              rw [b_D_reading_44, if_neg (by omega), b_D_reading_50, e1, and_iff_right (by omega), Int.toNat_natCast, s43 hD _ _ _ _ (by omega), b_D_reading_59, if_neg hb, b_D_reading_70, s17, if_neg c6, b_D_reading_79, e1, and_iff_right (by omega), Int.toNat_natCast, s43 hD _ _ _ _ (by omega), b_D_reading_88, s_D_kb, ap_s, b_D_reading_91, if_pos ck, b_D_reading_97]
              exact Iff.rfl
            rcases tl_D (f := f) (i := i) (it := (it : Int)) hr hS c6 4 1 n (by omega) (by omega) (by omega) with ⟨g1, g2⟩ | ⟨n', g1, g2, g3, g4⟩
            · refine ⟨it, K, R, hit, fun d Q sc J ID hD => ?_, fun hm => absurd (by rw [← e0]; exact hm) g2⟩
              rw [st d Q sc J ID hD, g1 d Q sc J _ (s43 hD _ _ _), e0]
            · have hd : ∀ j : Nat, 1 ≤ j → j ≤ 4 → 48 ≤ f (i + j) ∧ f (i + j) ≤ 57 := fun j j1 j2 => by
                have := isS_d (by omega) (g2 j j1 j2)
                omega
              have h4 : f (i + 4) ≤ 49 := (isS_d (j := 4) (by omega) (g2 4 (by omega) (by omega))).2.2 rfl
              obtain ⟨it', K', R', h1, h2, h3⟩ := ih n' (it + 1) (i + 5) (upF K it (kb (f i))) (itR f R i it) 3 (by omega) (by omega) (by omega)
              have e : pf f S (n + 1) it 0 i = pf f S n' ((it + 1 : Nat) : Int) 0 (i + 5) := by rw [e0, g3]; rfl
              refine ⟨it', K', R', h1, fun d Q sc J ID hD => ?_, fun hm K2 L2 B2 hR => ?_⟩
              · rw [st d Q sc J ID hD, g4 d Q sc J _ (s43 hD _ _ _), it_D hr hS hD (by omega) (by omega) hd, h2 d Q sc J ID hD, e]
              · obtain ⟨K2', L2', B2', q1, q2⟩ := h3 (by rw [← e]; exact hm) _ _ _ (rel_it (i := i) (by omega) hR ck hd h4)
                refine ⟨K2', L2', B2', q1, fun d Q sc J => ?_⟩
                rw [b_C_boardAll_9, s28, w32_eq (x := (i : Int) + 5) (by omega) (by omega), if_neg (by omega), b_C_boardAll_19, and_iff_right (by omega), Int.toNat_natCast, s29 _ _ _ _ _ (by omega), b_C_boardAll_25, if_neg hb, b_C_boardAll_36, s_C_boardOne (fun p hp => hC p (by omega)) (by omega) (by omega) ck hd, ap_n, b_C_boardAll_42, w32_eq (x := (i : Int) + 5) (by omega) (by omega)]
                exact q2 d Q sc J
          · have e : pf f S (n + 1) it 0 i = i := by rw [pf, if_neg (fun z => hb z.2), if_pos (Or.inr (by unfold isS; rw [if_pos rfl, if_neg ck]))]
            refine ⟨it, K, R, hit, fun d Q sc J ID hD => ?_, fun hm => by rw [e] at hm; omega⟩
            rw [b_D_reading_44, if_neg (by omega), b_D_reading_50, e1, and_iff_right (by omega), Int.toNat_natCast, s43 hD _ _ _ _ (by omega), b_D_reading_59, if_neg hb, b_D_reading_70, s17, if_neg c6, b_D_reading_79, e1, and_iff_right (by omega), Int.toNat_natCast, s43 hD _ _ _ _ (by omega), b_D_reading_88, s_D_kb, ap_s, b_D_reading_91, if_neg ck, b_D_reading_94, e]
theorem l_D_rd0 {a b c e : Int} : ∀ (m k : Nat) (I : TI), k + m = 25 → (X d m_D_reading 23 [some (vr 39 0), some (vi a), some (vi b), some (vi c), some (vi e), some (vi (k : Int))] [] (MM sc I J) Q ↔ X d m_D_reading 44 [some (vr 39 0), some (vi a), some (vi b), some (vi c), some (vi e), some (vi 25)] [] (MM sc (flI I 59 0 k 25 0) J) Q)
  | 0, k, I, e => by
    have e1 : k = 25 := by omega
    subst e1
    rw [fl_nil (Nat.le_refl _), b_D_reading_23, if_pos (by omega)]
    exact Iff.rfl
  | m + 1, k, I, e => by
    rw [b_D_reading_23, if_neg (by omega), b_D_reading_30, and_iff_right (by omega), b_D_reading_38, Int.toNat_natCast, wsuc (by omega), l_D_rd0 m (k + 1) _ (by omega), fl_step (by omega)]
def rz0 (R : Nat → Int) : Nat → Int := fun p => if p < 25 then 0 else R p
theorem s_D_rd0 {r S : Nat} (hr : r < 4) (hs : I 42 0 r = S) : X d m_D_reading 0 [some (vr 39 0), some (vi (r : Int)), none, none, none, none] [] (MM sc I J) Q ↔ X d m_D_reading 44 [some (vr 39 0), some (vi (r : Int)), some (vi ((60 * r : Nat) : Int)), some (vi (S : Int)), some (vi ((0 : Nat) : Int)), some (vi 25)] [] (MM sc (rdM I ((0 : Nat) : Int) (I 58 0) (rz0 (I 59 0))) J) Q := by
  have e1 : w32 (60 * (r : Int)) = ((60 * r : Nat) : Int) := by rw [w32_eq (by omega) (by omega)]; omega
  rw [b_D_reading_0, and_iff_right (by omega), Int.toNat_natCast, hs, e1, b_D_reading_11, b_D_reading_20]
  refine (l_D_rd0 25 0 _ (by omega)).trans ?_
  rw [show flI (upI I 39 0 17 0) 59 0 0 25 0 = rdM I ((0 : Nat) : Int) (I 58 0) (rz0 (I 59 0)) from ?_]
  · exact Iff.rfl
  · funext t i p
    simp only [flI, rd_up, rdM, rz0]
    (repeat' split) <;> first | rfl | (exfalso; omega) | (simp_all; done)
def fr0 (I : TI) (k : Nat) : TI := upI (upI (upI I 20 k 7 0) 20 k 8 0) 20 k 9 0
theorem s_F_clear {k : Nat} : X d m_F_clear 0 [some (vr 20 k)] [] (MM sc I J) Q ↔ Q none (MM sc (fr0 I k) J) := by
  simp only [b_F_clear_0, b_F_clear_5, b_F_clear_10, b_F_clear_15]
  exact Iff.rfl
theorem op_fault (h : Inv I J) (r : Int) : OpI m_C_fault m_D_fault [some (vr 0 0), some (vi r)] [some (vr 39 0), some (vi r)] sc I J := by
  by_cases hb : 0 ≤ r ∧ r ≤ 3
  · obtain ⟨r0, r5⟩ := hb
    obtain ⟨r, rfl⟩ := Int.eq_ofNat_of_zero_le r0
    have r6 : (r : Int) < 4 := by omega
    obtain ⟨k1, k2, k3, k4⟩ := h.2.1 r (by omega)
    by_cases c1 : I 28 (6 + r) 1 < 0
    · have d1 : ¬ 0 ≤ I 42 0 r := by omega
      refine op_fd h (f := 1) (by decide) (fun d Q hQ => ?_) (fun d Q hQ => ?_)
      · simp only [b_C_fault_0, b_C_fault_4, b_C_fault_7, b_C_fault_9, b_C_fault_15, b_C_fault_18, b_C_fault_21, b_C_fault_26, b_C_fault_27, b_C_fault_33, b_C_fault_36, s_C_isText, s_R_isMissing, s_C_fd1, c1, r0, r5, r6, i10, ap_s, ap_n, and_self, and_true, true_and, if_true, if_false, not_true_eq_false, not_false_eq_true, Int.toNat_natCast]
        exact hQ
      · simp only [b_D_fault_0, b_D_fault_4, b_D_fault_7, b_D_fault_9, b_D_fault_15, b_D_fault_18, b_D_fault_23, b_D_fault_26, b_D_fault_31, s_D_isText, fC42, s_D_fd1, d1, r0, r5, r6, i10, ap_s, ap_n, and_self, and_true, true_and, if_true, if_false, not_true_eq_false, not_false_eq_true, Int.toNat_natCast]
        exact hQ
    · have d1 : 0 ≤ I 42 0 r := by omega
      obtain ⟨S, hS⟩ := Int.eq_ofNat_of_zero_le (show 0 ≤ I 28 (6 + r) 1 by omega)
      have hl : S ≤ lenP (6 + r) := by unfold lenP; split <;> omega
      obtain ⟨it', K', R', q1, q2, q3⟩ := rdL (f := I 29 (6 + r)) (IC := I) (i1 := 6 + r) (r := r) (S := S) (by omega) (by omega) (fun _ _ => rfl) hS hl S S 0 0 (I 58 0) (rz0 (I 59 0)) 25 (Nat.le_refl _) (by omega) (by omega)
      refine ⟨pf (I 29 (6 + r)) S S 0 0 0, I, J, rdM I it' K' R', J, fun d Q hQ => ?_, fun d Q hQ => ?_, ?_⟩
      · simp only [b_C_fault_0, b_C_fault_4, b_C_fault_7, b_C_fault_9, b_C_fault_15, b_C_fault_18, b_C_fault_21, b_C_fault_26, b_C_fault_27, b_C_fault_33, b_C_fault_36, s_C_isText, s_R_isMissing, s_C_placeOfFault hl hS, c1, r0, r5, r6, i10, ap_s, ap_n, and_self, and_true, true_and, if_true, if_false, not_true_eq_false, not_false_eq_true, Int.toNat_natCast]
        exact hQ
      · simp only [b_D_fault_0, b_D_fault_4, b_D_fault_7, b_D_fault_9, b_D_fault_15, b_D_fault_18, b_D_fault_23, b_D_fault_26, b_D_fault_31, s_D_isText, d1, r0, r5, r6, i10, ap_s, ap_n, and_self, and_true, true_and, if_true, if_false, not_true_eq_false, not_false_eq_true, Int.toNat_natCast]
        refine (s_D_rd0 (by omega) (by omega)).mpr ((q2 _ _ _ _ I (fun p hp => (k4 p (by omega)).symm)).mpr ?_)
        simp only [i10, ap_s, ap_n, and_self, and_true, true_and, if_true, if_false, not_true_eq_false, not_false_eq_true, Int.toNat_natCast, b_D_fault_0, b_D_fault_4, b_D_fault_7, b_D_fault_9, b_D_fault_15, b_D_fault_18, b_D_fault_23, b_D_fault_26, b_D_fault_31]
        exact hQ
      · obtain ⟨h1, h2, h3, h4, h5, h6⟩ := h
        exact ⟨h1, h2, h3, h4, h5, h6⟩
  · refine op_no h (-1) (fun d Q hQ => ?_) (fun d Q hQ => ?_)
    · simp only [b_C_fault_0, b_C_fault_4, b_C_fault_7, b_C_fault_9, b_C_fault_15, b_C_fault_18, b_C_fault_21, b_C_fault_26, b_C_fault_27, b_C_fault_33, b_C_fault_36, s_C_isText, hb, i10, ap_s, ap_n, and_self, and_true, true_and, if_true, if_false, not_true_eq_false, not_false_eq_true, Int.toNat_natCast]
      exact hQ
    · simp only [b_D_fault_0, b_D_fault_4, b_D_fault_7, b_D_fault_9, b_D_fault_15, b_D_fault_18, b_D_fault_23, b_D_fault_26, b_D_fault_31, s_D_isText, hb, i10, ap_s, ap_n, and_self, and_true, true_and, if_true, if_false, not_true_eq_false, not_false_eq_true, Int.toNat_natCast]
      exact hQ
end FE
