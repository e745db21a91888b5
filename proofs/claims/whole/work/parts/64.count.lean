/-! COUNT -/
def acF (b : Nat → Int) : Nat → Int
  | 0 => 0
  | j + 1 => i_or (acF b j) (i_shl (b j) j)
theorem acF_eq {f g : Nat → Int} : ∀ {n : Nat}, (∀ j, j < n → f j = g j) → acF f n = acF g n
  | 0, _ => rfl
  | n + 1, h => by
    unfold acF
    rw [acF_eq (n := n) (fun j hj => h j (by omega)), h n (by omega)]
def hmF (K : Nat → Int) (o : Int) : Nat → Int
  | 0 => 0
  | j + 1 => hmF K o j + (if K j = o ∨ (o = 1 ∧ K j = 4) ∨ (o = 2 ∧ K j = 5) then 1 else 0)
theorem hmF_in {K : Nat → Int} {o : Int} : ∀ j : Nat, 0 ≤ hmF K o j ∧ hmF K o j ≤ j
  | 0 => ⟨Int.le_refl _, Int.le_refl _⟩
  | j + 1 => by
    have := hmF_in (K := K) (o := o) j
    unfold hmF
    split <;> omega
theorem hmF_eq {f g : Nat → Int} {o : Int} : ∀ {n : Nat}, (∀ j, j < n → f j = g j) → hmF f o n = hmF g o n
  | 0, _ => rfl
  | n + 1, h => by
    unfold hmF
    rw [hmF_eq (n := n) (fun j hj => h j (by omega)), h n (by omega)]
def thF (f : Nat → Int) : Nat → Int
  | 0 => 0
  | j + 1 => thF f j + (if f j < 0 then 0 else 1)
theorem thF_in {f : Nat → Int} : ∀ j : Nat, 0 ≤ thF f j ∧ thF f j ≤ j
  | 0 => ⟨Int.le_refl _, Int.le_refl _⟩
  | j + 1 => by
    have := thF_in (f := f) j
    unfold thF
    split <;> omega
theorem thF_eq {f g : Nat → Int} : ∀ {n : Nat}, (∀ j, j < n → f j = g j) → thF f n = thF g n
  | 0, _ => rfl
  | n + 1, h => by
    unfold thF
    rw [thF_eq (n := n) (fun j hj => h j (by omega)), h n (by omega)]
def kpF (f : Nat → Int) : Nat → Int
  | 0 => 0
  | j + 1 => kpF f j + (if f j = 0 then 0 else 1)
theorem kpF_in {f : Nat → Int} : ∀ j : Nat, 0 ≤ kpF f j ∧ kpF f j ≤ j
  | 0 => ⟨Int.le_refl _, Int.le_refl _⟩
  | j + 1 => by
    have := kpF_in (f := f) j
    unfold kpF
    split <;> omega
theorem kpF_eq {f g : Nat → Int} : ∀ {n : Nat}, (∀ j, j < n → (f j = 0 ↔ g j = 0)) → kpF f n = kpF g n
  | 0, _ => rfl
  | n + 1, h => by
    unfold kpF
    rw [kpF_eq (n := n) (fun j hj => h j (by omega))]
    have := h n (by omega)
    by_cases z : f n = 0
    · rw [if_pos z, if_pos (this.mp z)]
    · rw [if_neg z, if_neg (fun y => z (this.mpr y))]
section CO
variable {d : Nat} {Q : Option AV → AMem → Prop} {sc : SC} {I J : TI}
theorem l_F_obo {i0 n : Nat} (hn : n ≤ 6) (hs : I 20 i0 7 = n) : ∀ (m j : Nat), j + m = n → (X d m_F_onBankOne 4 [some (vr 20 i0), some (vi (acF (I 23 i0) j)), some (vi (j : Int))] [] (MM sc I J) Q ↔ Q (some (vi (acF (I 23 i0) n))) (MM sc I J))
  | 0, j, e => by
    have e1 : j = n := by omega
    subst e1
    rw [b_F_onBankOne_4, hs, if_pos (by omega), b_F_onBankOne_29]
  | m + 1, j, e => by
    rw [b_F_onBankOne_4, hs, if_neg (by omega), b_F_onBankOne_12, and_iff_right (by omega), Int.toNat_natCast, b_F_onBankOne_19, wsuc (by omega)]
    exact l_F_obo hn hs m (j + 1) (by omega)
theorem s_F_obo {i0 n : Nat} (hn : n ≤ 6) (hs : I 20 i0 7 = n) : X d m_F_onBankOne 0 [some (vr 20 i0), none, none] [] (MM sc I J) Q ↔ Q (some (vi (acF (I 23 i0) n))) (MM sc I J) := by
  rw [b_F_onBankOne_0]
  exact l_F_obo hn hs n 0 (by omega)
theorem l_D_across {n : Nat} (hn : n ≤ 6) (hs : I 39 0 4 = n) : ∀ (m j : Nat), j + m = n → (X d m_D_across 4 [some (vr 39 0), some (vi (acF (fun q => I 46 0 (19 + q)) j)), some (vi (j : Int))] [] (MM sc I J) Q ↔ Q (some (vi (acF (fun q => I 46 0 (19 + q)) n))) (MM sc I J))
  | 0, j, e => by
    have e1 : j = n := by omega
    subst e1
    rw [b_D_across_4, hs, if_pos (by omega), b_D_across_32]
  | m + 1, j, e => by
    have c1 : 0 ≤ ((19 + j : Nat) : Int) ∧ ((19 + j : Nat) : Int) < 25 := by omega
    have c2 : ¬ (n : Int) ≤ j := by omega
    have e1 : w32 (19 + (j : Int)) = ((19 + j : Nat) : Int) := by rw [w32_eq (by omega) (by omega)]; omega
    rw [b_D_across_4, hs, if_neg c2, b_D_across_12, e1, and_iff_right c1, Int.toNat_natCast, b_D_across_22, wsuc (by omega)]
    exact l_D_across hn hs m (j + 1) (by omega)
theorem s_D_across {n : Nat} (hn : n ≤ 6) (hs : I 39 0 4 = n) : X d m_D_across 0 [some (vr 39 0), none, none] [] (MM sc I J) Q ↔ Q (some (vi (acF (fun q => I 46 0 (19 + q)) n))) (MM sc I J) := by
  rw [b_D_across_0]
  exact l_D_across hn hs n 0 (by omega)
theorem l_F_hmo {i0 n : Nat} {o : Int} (ho : o ≠ 0) (hn : n ≤ 6) (hs : I 20 i0 7 = n) : ∀ (m j : Nat), j + m = n → (X (d + 1) m_F_howManyOf 4 [some (vr 20 i0), some (vi o), some (vi (hmF (I 21 i0) o j)), some (vi (j : Int))] [] (MM sc I J) Q ↔ Q (some (vi (hmF (I 21 i0) o n))) (MM sc I J))
  | 0, j, e => by
    have e1 : j = n := by omega
    subst e1
    rw [b_F_howManyOf_4, hs, if_pos (by omega), b_F_howManyOf_39]
  | m + 1, j, e => by
    have hj := hmF_in (K := I 21 i0) (o := o) j
    rw [b_F_howManyOf_4, hs, if_neg (by omega), b_F_howManyOf_12, and_iff_right (by omega), Int.toNat_natCast, b_F_howManyOf_19, s_K_isOf, ap_s, b_F_howManyOf_23, b_F_howManyOf_26, b_F_howManyOf_30, b_F_howManyOf_31, b_F_howManyOf_31, wsuc (by omega), w32_eq (x := hmF (I 21 i0) o j + 1) (by omega) (by omega), w32_eq (x := hmF (I 21 i0) o j + 0) (by omega) (by omega)]
    rw [← l_F_hmo ho hn hs m (j + 1) (by omega)]
    rw [hmF]
    by_cases z : I 21 i0 j = o ∨ (o = 1 ∧ I 21 i0 j = 4) ∨ (o = 2 ∧ I 21 i0 j = 5)
    · rw [if_pos z, if_pos (show I 21 i0 j = o ∨ o = 0 ∨ (I 21 i0 j = 4 ∧ o = 1) ∨ (I 21 i0 j = 5 ∧ o = 2) by omega), if_neg (by decide)]
    · rw [if_neg z, if_neg (show ¬ (I 21 i0 j = o ∨ o = 0 ∨ (I 21 i0 j = 4 ∧ o = 1) ∨ (I 21 i0 j = 5 ∧ o = 2)) by omega), if_pos rfl]
theorem s_F_hmo {i0 n : Nat} {o : Int} (ho : o ≠ 0) (hn : n ≤ 6) (hs : I 20 i0 7 = n) : X (d + 1) m_F_howManyOf 0 [some (vr 20 i0), some (vi o), none, none] [] (MM sc I J) Q ↔ Q (some (vi (hmF (I 21 i0) o n))) (MM sc I J) := by
  rw [b_F_howManyOf_0]
  exact l_F_hmo ho hn hs n 0 (by omega)
theorem l_D_those {n : Nat} {o : Int} (hn : n ≤ 6) (hs : I 39 0 4 = n) : ∀ (m j : Nat), j + m = n → (X (d + 1) m_D_those 4 [some (vr 39 0), some (vi o), some (vi (hmF (I 45 0) o j)), some (vi (j : Int))] [] (MM sc I J) Q ↔ Q (some (vi (hmF (I 45 0) o n))) (MM sc I J))
  | 0, j, e => by
    have e1 : j = n := by omega
    subst e1
    rw [b_D_those_4, hs, if_pos (by omega), b_D_those_35]
  | m + 1, j, e => by
    have hj := hmF_in (K := I 45 0) (o := o) j
    rw [b_D_those_4, hs, if_neg (by omega), b_D_those_12, s_D_isA (by omega), ap_s, b_D_those_19, b_D_those_22, b_D_those_26, b_D_those_27, b_D_those_27, wsuc (by omega), w32_eq (x := hmF (I 45 0) o j + 1) (by omega) (by omega), w32_eq (x := hmF (I 45 0) o j + 0) (by omega) (by omega)]
    rw [← l_D_those hn hs m (j + 1) (by omega)]
    rw [hmF]
    by_cases z : I 45 0 j = o ∨ (o = 1 ∧ I 45 0 j = 4) ∨ (o = 2 ∧ I 45 0 j = 5)
    · rw [if_pos z, if_neg (by decide)]
    · rw [if_neg z, if_pos rfl]
theorem s_D_those {n : Nat} {o : Int} (hn : n ≤ 6) (hs : I 39 0 4 = n) : X (d + 1) m_D_those 0 [some (vr 39 0), some (vi o), none, none] [] (MM sc I J) Q ↔ Q (some (vi (hmF (I 45 0) o n))) (MM sc I J) := by
  rw [b_D_those_0]
  exact l_D_those hn hs n 0 (by omega)
theorem l_C_hmt {t n q : Nat} (h0 : ∀ f g, cellF sc t 0 f g = .inr (.inl (3, n, fun j => if j < n then some (28, q + j) else none))) (hn : n ≤ 100) : ∀ (m j : Nat) (o : Option AV), j + m = n → (X (d + 1) m_C_howManyThere 10 [some (vr t 0), some (vi (thF (fun j => I 28 (q + j) 1) j)), some (vr t 0), some (vi (n : Int)), some (vi (j : Int)), o] [] (MM sc I J) Q ↔ Q (some (vi (thF (fun j => I 28 (q + j) 1) n))) (MM sc I J))
  | 0, j, o, e => by
    have e1 : j = n := by omega
    subst e1
    rw [b_C_howManyThere_10, if_pos (by omega), b_C_howManyThere_44]
  | m + 1, j, o, e => by
    have hj := thF_in (f := fun j => I 28 (q + j) 1) j
    rw [b_C_howManyThere_10, if_neg (by omega), b_C_howManyThere_16 h0, and_iff_right (by omega), Int.toNat_natCast, b_C_howManyThere_20, s_R_isMissing, ap_s, b_C_howManyThere_28, b_C_howManyThere_31, b_C_howManyThere_35, b_C_howManyThere_36, b_C_howManyThere_36, wsuc (by omega), w32_eq (x := thF (fun j => I 28 (q + j) 1) j + 1) (by omega) (by omega), w32_eq (x := thF (fun j => I 28 (q + j) 1) j + 0) (by omega) (by omega)]
    rw [← l_C_hmt h0 hn m (j + 1) (some (vr 28 (q + j))) (by omega)]
    rw [thF]
    by_cases z : I 28 (q + j) 1 < 0
    · rw [if_pos z, if_neg (by decide), if_pos z]
    · rw [if_neg z, if_pos rfl, if_neg z]
theorem l_D_there {t n : Nat} (h0 : ∀ f g, cellF sc t 0 f g = .inl (0, n, f)) (hn : n ≤ 100) : ∀ (m j : Nat), j + m = n → (X d m_D_there 4 [some (vr t 0), some (vi (thF (I t 0) j)), some (vi (j : Int))] [] (MM sc I J) Q ↔ Q (some (vi (thF (I t 0) n))) (MM sc I J))
  | 0, j, e => by
    have e1 : j = n := by omega
    subst e1
    rw [b_D_there_4 h0, b_D_there_7, if_pos (by omega), b_D_there_30]
  | m + 1, j, e => by
    have hj := thF_in (f := I t 0) j
    rw [b_D_there_4 h0, b_D_there_7, if_neg (by omega), b_D_there_10 h0, and_iff_right (by omega), Int.toNat_natCast, b_D_there_14, b_D_there_17, b_D_there_21, b_D_there_22, b_D_there_22, wsuc (by omega), w32_eq (x := thF (I t 0) j + 1) (by omega) (by omega), w32_eq (x := thF (I t 0) j + 0) (by omega) (by omega)]
    rw [← l_D_there h0 hn m (j + 1) (by omega)]
    rw [thF]
    by_cases z : I t 0 j < 0
    · rw [if_pos z, if_neg (by omega)]
    · rw [if_neg z, if_pos (by omega)]
theorem l_C_hmk : ∀ (m j : Nat) (o : Option AV), j + m = 3 → (X (d + 1) m_C_howManyKept 13 [some (vr 0 0), some (vi (kpF (fun k => I 20 (1 + k) 7) j)), some (vr 4 0), some (vi 3), some (vi (j : Int)), o] [] (MM sc I J) Q ↔ Q (some (vi (kpF (fun k => I 20 (1 + k) 7) 3))) (MM sc I J))
  | 0, j, o, e => by
    have e1 : j = 3 := by omega
    subst e1
    rw [b_C_howManyKept_13, if_pos (by omega), b_C_howManyKept_47]
  | m + 1, j, o, e => by
    have hj := kpF_in (f := fun k => I 20 (1 + k) 7) j
    rw [b_C_howManyKept_13, if_neg (by omega), b_C_howManyKept_19, and_iff_right (by omega), Int.toNat_natCast, b_C_howManyKept_23, s_F_isEmpty, ap_s, b_C_howManyKept_31, b_C_howManyKept_34, b_C_howManyKept_38, b_C_howManyKept_39, b_C_howManyKept_39, wsuc (by omega), w32_eq (x := kpF (fun k => I 20 (1 + k) 7) j + 1) (by omega) (by omega), w32_eq (x := kpF (fun k => I 20 (1 + k) 7) j + 0) (by omega) (by omega)]
    rw [← l_C_hmk m (j + 1) (some (vr 20 (1 + j))) (by omega)]
    rw [kpF]
    by_cases z : I 20 (1 + j) 7 = 0
    · rw [if_pos z, if_neg (by decide), if_pos z]
    · rw [if_neg z, if_pos rfl, if_neg z]
theorem l_D_km : ∀ (m j : Nat), j + m = 3 → (X d m_D_keptMany 4 [some (vr 39 0), some (vi (kpF (I 51 0) j)), some (vi (j : Int))] [] (MM sc I J) Q ↔ Q (some (vi (kpF (I 51 0) 3))) (MM sc I J))
  | 0, j, e => by
    have e1 : j = 3 := by omega
    subst e1
    rw [b_D_keptMany_4, if_pos (by omega), b_D_keptMany_32]
  | m + 1, j, e => by
    have hj := kpF_in (f := I 51 0) j
    rw [b_D_keptMany_4, if_neg (by omega), b_D_keptMany_9, and_iff_right (by omega), Int.toNat_natCast, b_D_keptMany_16, b_D_keptMany_19, b_D_keptMany_23, b_D_keptMany_24, b_D_keptMany_24, wsuc (by omega), w32_eq (x := kpF (I 51 0) j + 1) (by omega) (by omega), w32_eq (x := kpF (I 51 0) j + 0) (by omega) (by omega)]
    rw [← l_D_km m (j + 1) (by omega)]
    rw [kpF]
    by_cases z : I 51 0 j = 0
    · rw [if_pos z, if_pos z]
    · rw [if_neg z, if_neg z]
end CO
