/-! PASSENGER, MARK, CHANGES -/
theorem or_in : ∀ x : _root_.Fin 128, ∀ c : _root_.Fin 7, 0 ≤ i_or (x.val : Int) (i_shl 1 (c.val : Int)) ∧ i_or (x.val : Int) (i_shl 1 (c.val : Int)) < 128 := by decide +kernel
theorem or_in' {x : Int} {c : Nat} (h : 0 ≤ x ∧ x < 128) (hc : c < 7) : 0 ≤ i_or x (i_shl 1 (c : Int)) ∧ i_or x (i_shl 1 (c : Int)) < 128 := by
  obtain ⟨x, rfl⟩ := Int.eq_ofNat_of_zero_le h.1
  exact or_in ⟨x, by omega⟩ ⟨c, hc⟩
theorem lnF_in (k L n : Int) : ∀ c : Nat, c ≤ 7 → 0 ≤ lnF k L n c ∧ lnF k L n c < 128
  | 0, _ => ⟨Int.le_refl 0, show (0 : Int) < 128 by decide⟩
  | c + 1, h => by
    have := lnF_in k L n c (by omega)
    unfold lnF
    split
    · exact this
    · exact or_in' this (by omega)
def bc1 (x : Int) : Int := w32 (x - i_and (i_ushr x 1) 1431655765)
def bc2 (y : Int) : Int := w32 (i_and y 858993459 + i_and (i_ushr y 2) 858993459)
def bc3 (y : Int) : Int := i_and (w32 (y + i_ushr y 4)) 252645135
def bc4 (y : Int) : Int := w32 (y + i_ushr y 8)
def bc5 (y : Int) : Int := i_and (w32 (y + i_ushr y 16)) 63
def bcF (x : Int) : Int := bc5 (bc4 (bc3 (bc2 (bc1 x))))
def bF : Nat → Int → Int → Int
  | 0, acc, _ => acc
  | n + 1, acc, x => if x = 0 then acc else bF n (acc + 1) (i_and x (w32 (x - 1)))
def bE : Nat → Int → Bool
  | 0, x => decide (x = 0)
  | n + 1, x => bif decide (x = 0) then true else bE n (i_and x (w32 (x - 1)))
theorem bc_dec : ∀ x : _root_.Fin 128, bE 8 (x.val : Int) = true ∧ bF 8 0 (x.val : Int) = bcF (x.val : Int) := by decide +kernel
def knV (k L b n what : Int) : Int := if what = 0 then k else if what = 4 then b else if what = 5 then tg L + (if k = 1 ∨ k = 4 then 1 else 0) else if what = 6 then lnF k L n 7 else dg L (what - 1)
section AS
variable {d : Nat} {Q : Option AV → AMem → Prop} {sc : SC} {I J : TI}
theorem inv_num (h : Inv I J) : I 20 0 7 = I 39 0 4 ∧ 0 ≤ I 39 0 4 ∧ I 39 0 4 ≤ 6 ∧ I 20 0 8 = I 46 0 0 ∧ 0 ≤ I 46 0 0 ∧ I 46 0 0 ≤ 40 ∧ I 20 0 9 = I 39 0 9 ∧ 0 ≤ I 39 0 9 ∧ I 39 0 9 ≤ 40 := by
  obtain ⟨h1, h2, h3, h4, h5, h6⟩ := h
  obtain ⟨f1, f2, f3, f4, f5, f6, f7⟩ := h4.2
  exact ⟨h3.1, h3.2.1, h3.2.2.1, f3, f1.2, by omega, h4.1, f4, f5⟩
theorem inv_pas (h : Inv I J) {i : Nat} (hi : (i : Int) < I 39 0 4) : i < 6 ∧ I 21 0 i = I 45 0 i ∧ (0 ≤ I 45 0 i ∧ I 45 0 i ≤ 5) ∧ I 22 0 i = lf3 (I 46 0) i ∧ I 23 0 i = I 46 0 (19 + i) ∧ dg3 (I 46 0) i ∧ (I 46 0 (19 + i) = 0 ∨ I 46 0 (19 + i) = 1) := by
  obtain ⟨h1, h2, h3, h4, h5, h6⟩ := h
  obtain ⟨f1, f2, f3, f4, f5, f6, f7⟩ := h4.2
  have a := h3.2.2.2 i hi
  have b := f1.1 i hi
  have c := f2 i hi
  exact ⟨by omega, a.1, a.2, c.1, c.2, ⟨b.1, b.2.1, b.2.2.1⟩, b.2.2.2⟩
theorem l_K_landings {k L n : Int} (hL : 0 ≤ L) (hL2 : L ≤ 999) (hn : 0 ≤ n) : ∀ (m c : Nat), c + m = 7 → (X (d + 3) m_K_landings 5 [some (vi k), some (vi L), some (vi n), some (vi (lnF k L n c)), some (vi (c : Int))] [] (MM sc I J) Q ↔ Q (some (vi (lnF k L n 7))) (MM sc I J))
  | 0, c, e => by
    have e1 : c = 7 := by omega
    subst e1
    rw [b_K_landings_5, if_pos (by omega), b_K_landings_37]
  | m + 1, c, e => by
    rw [b_K_landings_5, if_neg (by omega), b_K_landings_12, s_K_landing (by omega) (by omega) hL hL2 hn, ap_s, b_K_landings_20, b_K_landings_24, b_K_landings_31, b_K_landings_31, wsuc (by omega)]
    rw [← l_K_landings hL hL2 hn m (c + 1) (by omega)]
    rw [lnF]
    split <;> exact Iff.rfl
theorem s_K_landings {k L n : Int} (hL : 0 ≤ L) (hL2 : L ≤ 999) (hn : 0 ≤ n) : X (d + 3) m_K_landings 0 [some (vi k), some (vi L), some (vi n), none, none] [] (MM sc I J) Q ↔ Q (some (vi (lnF k L n 7))) (MM sc I J) := by
  rw [b_K_landings_0]
  exact l_K_landings hL hL2 hn 7 0 (by omega)
theorem l_D_landsBy {i : Nat} (hi : i < 6) (hk : 0 ≤ I 45 0 i) (hk2 : I 45 0 i ≤ 5) (hd : dg3 (I 46 0) i) (hn : 0 ≤ I 46 0 0) : ∀ (m c : Nat), c + m = 7 → (X (d + 2) m_D_landsBy 4 [some (vr 39 0), some (vi (i : Int)), some (vi (lnF (I 45 0 i) (lf3 (I 46 0) i) (I 46 0 0) c)), some (vi (c : Int))] [] (MM sc I J) Q ↔ Q (some (vi (lnF (I 45 0 i) (lf3 (I 46 0) i) (I 46 0 0) 7))) (MM sc I J))
  | 0, c, e => by
    have e1 : c = 7 := by omega
    subst e1
    rw [b_D_landsBy_4, if_pos (by omega), b_D_landsBy_39]
  | m + 1, c, e => by
    rw [b_D_landsBy_4, if_neg (by omega), b_D_landsBy_10, s_D_mayLand (fun _ _ => rfl) hi hk hk2 (by omega) (by omega) hd hn, ap_s, b_D_landsBy_21, b_D_landsBy_24, b_D_landsBy_30, b_D_landsBy_31, b_D_landsBy_31, wsuc (by omega), i_or_0 (lnF_i32 _ _ _ _)]
    rw [← l_D_landsBy hi hk hk2 hd hn m (c + 1) (by omega)]
    rw [lnF]
    by_cases z : ld (I 45 0 i) (lf3 (I 46 0) i) c (I 46 0 0) = -1
    · rw [if_pos z, if_pos z, if_pos rfl]
    · rw [if_neg z, if_neg z, if_neg (by omega)]
theorem s_D_landsBy {i : Nat} (hi : i < 6) (hk : 0 ≤ I 45 0 i) (hk2 : I 45 0 i ≤ 5) (hd : dg3 (I 46 0) i) (hn : 0 ≤ I 46 0 0) : X (d + 2) m_D_landsBy 0 [some (vr 39 0), some (vi (i : Int)), none, none] [] (MM sc I J) Q ↔ Q (some (vi (lnF (I 45 0 i) (lf3 (I 46 0) i) (I 46 0 0) 7))) (MM sc I J) := by
  rw [b_D_landsBy_0]
  exact l_D_landsBy hi hk hk2 hd hn 7 0 (by omega)
theorem s_JI_bitCount {x : Int} : X d m_JI_bitCount 0 [some (vi x)] [] (MM sc I J) Q ↔ Q (some (vi (bcF x))) (MM sc I J) := b_JI_bitCount_0
theorem l_D_bits {x0 : Int} : ∀ (n : Nat) (acc x : Int), bE n x = true → 0 ≤ acc → acc + n ≤ 1000 → (X d m_D_bits 4 [some (vi x0), some (vi acc), some (vi x)] [] (MM sc I J) Q ↔ Q (some (vi (bF n acc x))) (MM sc I J))
  | 0, acc, x, h, h1, h2 => by
    have : x = 0 := of_decide_eq_true h
    rw [b_D_bits_4, if_pos this, b_D_bits_20]
    exact Iff.rfl
  | n + 1, acc, x, h, h1, h2 => by
    rw [b_D_bits_4, b_D_bits_20, b_D_bits_8, bF]
    by_cases z : x = 0
    · rw [if_pos z, if_pos z]
    · rw [if_neg z, if_neg z, w32_eq (x := acc + 1) (by omega) (by omega)]
      refine l_D_bits n (acc + 1) _ ?_ (by omega) (by omega)
      have hh : (bif decide (x = 0) then true else bE n (i_and x (w32 (x - 1)))) = true := h
      rw [decide_eq_false z] at hh
      exact hh
theorem s_D_bits {x : Int} (h : 0 ≤ x ∧ x < 128) : X d m_D_bits 0 [some (vi x), none, none] [] (MM sc I J) Q ↔ Q (some (vi (bcF x))) (MM sc I J) := by
  obtain ⟨x, rfl⟩ := Int.eq_ofNat_of_zero_le h.1
  have := bc_dec ⟨x, by omega⟩
  rw [b_D_bits_0, l_D_bits 8 0 _ this.1 (by omega) (by omega), this.2]
theorem s_L_leastThing {L : Int} (h : 0 ≤ L) (h2 : L ≤ 999) : X (d + 2) m_L_leastThing 0 [some (vi L), none, none] [] (MM sc I J) Q ↔ Q (some (vi (lst (dg L 0) (dg L 1) (dg L 2)))) (MM sc I J) := by
  simp only [b_L_leastThing_0, b_L_leastThing_4, b_L_leastThing_9, b_L_leastThing_14, b_L_leastThing_19, b_L_leastThing_22, b_L_leastThing_24, b_L_leastThing_30, s_L_thing h h2, i10, ap_s, ap_n, and_self, and_true, true_and, if_true, if_false, not_true_eq_false, not_false_eq_true, Int.toNat_natCast, ↓reduceIte, Int.reduceAdd, Int.reduceSub, Int.reduceMul, Int.reduceLE, Int.reduceLT, Int.reduceEq, Int.reduceToNat, Nat.reduceAdd, w32_1, w32_2, w32_3, w32_4, w32_5, w32_6, w32_7]
  unfold lst
  (repeat' split) <;> first | rfl | (exfalso; omega)
theorem s_D_leastThing {i : Nat} (hi : i < 6) : X d m_D_leastThing 0 [some (vr 39 0), some (vi (i : Int)), none, none] [] (MM sc I J) Q ↔ Q (some (vi (lst (I 46 0 (1 + 3 * i)) (I 46 0 (2 + 3 * i)) (I 46 0 (3 + 3 * i))))) (MM sc I J) := by
  have e0 : w32 (w32 (1 + w32 (3 * (i : Int))) + 0) = ((1 + 3 * i : Nat) : Int) := by rw [w32_eq (x := 3 * (i : Int)) (by omega) (by omega), w32_eq (x := 1 + 3 * (i : Int)) (by omega) (by omega), w32_eq (by omega) (by omega)]; omega
  have e1 : w32 (w32 (1 + w32 (3 * (i : Int))) + 1) = ((2 + 3 * i : Nat) : Int) := by rw [w32_eq (x := 3 * (i : Int)) (by omega) (by omega), w32_eq (x := 1 + 3 * (i : Int)) (by omega) (by omega), w32_eq (by omega) (by omega)]; omega
  have e2 : w32 (w32 (1 + w32 (3 * (i : Int))) + 2) = ((3 + 3 * i : Nat) : Int) := by rw [w32_eq (x := 3 * (i : Int)) (by omega) (by omega), w32_eq (x := 1 + 3 * (i : Int)) (by omega) (by omega), w32_eq (by omega) (by omega)]; omega
  have c0 : 0 ≤ ((1 + 3 * i : Nat) : Int) ∧ ((1 + 3 * i : Nat) : Int) < 25 := by omega
  have c1 : 0 ≤ ((2 + 3 * i : Nat) : Int) ∧ ((2 + 3 * i : Nat) : Int) < 25 := by omega
  have c2 : 0 ≤ ((3 + 3 * i : Nat) : Int) ∧ ((3 + 3 * i : Nat) : Int) < 25 := by omega
  simp only [b_D_leastThing_0, b_D_leastThing_4, b_D_leastThing_9, b_D_leastThing_21, b_D_leastThing_33, b_D_leastThing_36, b_D_leastThing_40, b_D_leastThing_41, b_D_leastThing_48, e0, e1, e2, c0, c1, c2, i10, ap_s, ap_n, and_self, and_true, true_and, if_true, if_false, not_true_eq_false, not_false_eq_true, Int.toNat_natCast, ↓reduceIte, Int.reduceAdd, Int.reduceSub, Int.reduceMul, Int.reduceLE, Int.reduceLT, Int.reduceEq, Int.reduceToNat, Nat.reduceAdd, w32_1, w32_2, w32_3, w32_4, w32_5, w32_6, w32_7]
  unfold lst
  (repeat' split) <;> first | rfl | (exfalso; omega)
theorem l_F_others {i0 i n : Nat} (hi : i < 6) (hn : n ≤ 6) (hs : I 20 i0 7 = n) : ∀ (m j : Nat), j + m = n → (X d m_F_othersOnBankOf 4 [some (vr 20 i0), some (vi (i : Int)), some (vi (cB (I 23 i0) i j)), some (vi (j : Int))] [] (MM sc I J) Q ↔ Q (some (vi (cB (I 23 i0) i n))) (MM sc I J))
  | 0, j, e => by
    have e1 : j = n := by omega
    subst e1
    rw [b_F_othersOnBankOf_4, hs, if_pos (by omega), b_F_othersOnBankOf_46]
  | m + 1, j, e => by
    have hb := cB_in (I 23 i0) i j
    rw [b_F_othersOnBankOf_4, hs, if_neg (by omega), b_F_othersOnBankOf_12, b_F_othersOnBankOf_18, and_iff_right (by omega), b_F_othersOnBankOf_24, and_iff_right (by omega), b_F_othersOnBankOf_30, b_F_othersOnBankOf_33, b_F_othersOnBankOf_37, b_F_othersOnBankOf_38, b_F_othersOnBankOf_38, wsuc (by omega), Int.toNat_natCast, Int.toNat_natCast, w32_eq (x := cB (I 23 i0) i j + 1) (by omega) (by omega), w32_eq (x := cB (I 23 i0) i j + 0) (by omega) (by omega)]
    rw [← l_F_others hi hn hs m (j + 1) (by omega)]
    rw [cB]
    by_cases z : j = i
    · rw [if_pos (by omega), if_neg (fun y => y.1 z)]
    · rw [if_neg (by omega)]
      by_cases y : I 23 i0 j = I 23 i0 i
      · rw [if_pos y, if_pos ⟨z, y⟩]
      · rw [if_neg y, if_neg (fun x => y x.2)]
theorem l_D_besides {i n : Nat} (hi : i < 6) (hn : n ≤ 6) (hs : I 39 0 4 = n) : ∀ (m j : Nat), j + m = n → (X d m_D_besides 4 [some (vr 39 0), some (vi (i : Int)), some (vi (cB (fun q => I 46 0 (19 + q)) i j)), some (vi (j : Int))] [] (MM sc I J) Q ↔ Q (some (vi (cB (fun q => I 46 0 (19 + q)) i n))) (MM sc I J))
  | 0, j, e => by
    have e1 : j = n := by omega
    subst e1
    rw [b_D_besides_4, hs, if_pos (by omega), b_D_besides_52]
  | m + 1, j, e => by
    have hb := cB_in (fun q => I 46 0 (19 + q)) i j
    have e1 : w32 (19 + (j : Int)) = ((19 + j : Nat) : Int) := by rw [w32_eq (by omega) (by omega)]; omega
    have e2 : w32 (19 + (i : Int)) = ((19 + i : Nat) : Int) := by rw [w32_eq (by omega) (by omega)]; omega
    rw [b_D_besides_4, hs, if_neg (by omega), b_D_besides_12, b_D_besides_18, e1, and_iff_right (by omega), b_D_besides_27, e2, and_iff_right (by omega), b_D_besides_36, b_D_besides_39, b_D_besides_43, b_D_besides_44, b_D_besides_44, wsuc (by omega), Int.toNat_natCast, Int.toNat_natCast, w32_eq (x := cB (fun q => I 46 0 (19 + q)) i j + 1) (by omega) (by omega), w32_eq (x := cB (fun q => I 46 0 (19 + q)) i j + 0) (by omega) (by omega)]
    rw [← l_D_besides hi hn hs m (j + 1) (by omega)]
    rw [cB]
    by_cases z : j = i
    · rw [if_pos (by omega), if_neg (fun y => y.1 z)]
    · rw [if_neg (by omega)]
      by_cases y : I 46 0 (19 + j) = I 46 0 (19 + i)
      · rw [if_pos y, if_pos ⟨z, y⟩]
      · rw [if_neg y, if_neg (fun x => y x.2)]
theorem s_C_knownOf {i : Nat} {w : Int} (hi : i < 6) (hL : 0 ≤ I 22 0 i) (hL2 : I 22 0 i ≤ 999) (hn : 0 ≤ I 20 0 8) (h0 : 0 ≤ w) (h6 : w ≤ 6) : X (d + 4) m_C_knownOf 0 [some (vr 0 0), some (vi (i : Int)), some (vi w), none, none] [] (MM sc I J) Q ↔ Q (some (vi (knV (I 21 0 i) (I 22 0 i) (I 23 0 i) (I 20 0 8) w))) (MM sc I J) := by
  have i0 : (0 : Int) ≤ i := by omega
  have i6 : (i : Int) < 6 := by omega
  have hw : w = 0 ∨ w = 1 ∨ w = 2 ∨ w = 3 ∨ w = 4 ∨ w = 5 ∨ w = 6 := by omega
  simp only [b_C_knownOf_0, b_C_knownOf_9, b_C_knownOf_19, b_C_knownOf_64, b_C_knownOf_66, b_C_knownOf_75, b_C_knownOf_76, b_C_knownOf_82, b_C_knownOf_83, b_C_knownOf_96, b_C_knownOf_97, b_C_knownOf_105, i0, i6, s_K_weightOf hL hL2, s_K_landings hL hL2 hn, s_L_thing hL hL2, i10, ap_s, ap_n, and_self, and_true, true_and, if_true, if_false, not_true_eq_false, not_false_eq_true, Int.toNat_natCast, knV]
  have z0 : w32 (1 - 1) = 0 := by decide
  have z1 : w32 (2 - 1) = 1 := by decide
  have z2 : w32 (3 - 1) = 2 := by decide
  rcases hw with e | e | e | e | e | e | e <;> subst e <;> simp only [↓reduceIte, Int.reduceAdd, Int.reduceSub, Int.reduceMul, Int.reduceLE, Int.reduceLT, Int.reduceEq, Int.reduceToNat, Nat.reduceAdd, w32_1, w32_2, w32_3, w32_4, w32_5, w32_6, w32_7, z0, z1, z2]
  · rw [show w32 0 = 0 by decide]
theorem s_D_passengerOf {i : Nat} {w : Int} (hi : i < 6) (hk : 0 ≤ I 45 0 i) (hk2 : I 45 0 i ≤ 5) (hd : dg3 (I 46 0) i) (hn : 0 ≤ I 46 0 0) (h0 : 0 ≤ w) (h6 : w ≤ 6) : X (d + 3) m_D_passengerOf 0 [some (vr 39 0), some (vi (i : Int)), some (vi w)] [] (MM sc I J) Q ↔ Q (some (vi (knV (I 45 0 i) (lf3 (I 46 0) i) (I 46 0 (19 + i)) (I 46 0 0) w))) (MM sc I J) := by
  have i0 : (0 : Int) ≤ i := by omega
  have i6 : (i : Int) < 6 := by omega
  have hw : w = 0 ∨ w = 4 ∨ w = 5 ∨ w = 6 ∨ ∃ v : Nat, v < 3 ∧ w = (v : Int) + 1 := by
    by_cases c : 1 ≤ w ∧ w ≤ 3
    · obtain ⟨v, hv⟩ := Int.eq_ofNat_of_zero_le (show 0 ≤ w - 1 by omega)
      exact Or.inr (Or.inr (Or.inr (Or.inr ⟨v, by omega, by omega⟩)))
    · omega
  have e4 : w32 (19 + (i : Int)) = ((19 + i : Nat) : Int) := by rw [w32_eq (by omega) (by omega)]; omega
  have c4 : 0 ≤ ((19 + i : Nat) : Int) ∧ ((19 + i : Nat) : Int) < 25 := by omega
  rcases hw with e | e | e | e | ⟨v, hv, e⟩
  · subst e
    simp only [b_D_passengerOf_0, b_D_passengerOf_44, b_D_passengerOf_50, b_D_passengerOf_51, b_D_passengerOf_60, b_D_passengerOf_61, b_D_passengerOf_66, b_D_passengerOf_67, i0, i6, i10, ap_s, ap_n, and_self, and_true, true_and, if_true, if_false, not_true_eq_false, not_false_eq_true, Int.toNat_natCast, knV, ↓reduceIte, Int.reduceAdd, Int.reduceSub, Int.reduceMul, Int.reduceLE, Int.reduceLT, Int.reduceEq, Int.reduceToNat, Nat.reduceAdd, w32_1, w32_2, w32_3, w32_4, w32_5, w32_6, w32_7]
  · subst e
    simp only [b_D_passengerOf_0, b_D_passengerOf_44, b_D_passengerOf_50, b_D_passengerOf_51, b_D_passengerOf_60, b_D_passengerOf_61, b_D_passengerOf_66, b_D_passengerOf_67, e4, c4, i10, ap_s, ap_n, and_self, and_true, true_and, if_true, if_false, not_true_eq_false, not_false_eq_true, Int.toNat_natCast, knV, ↓reduceIte, Int.reduceAdd, Int.reduceSub, Int.reduceMul, Int.reduceLE, Int.reduceLT, Int.reduceEq, Int.reduceToNat, Nat.reduceAdd, w32_1, w32_2, w32_3, w32_4, w32_5, w32_6, w32_7]
  · subst e
    simp only [b_D_passengerOf_0, b_D_passengerOf_44, b_D_passengerOf_50, b_D_passengerOf_51, b_D_passengerOf_60, b_D_passengerOf_61, b_D_passengerOf_66, b_D_passengerOf_67, s_D_weightOf hi hd, i10, ap_s, ap_n, and_self, and_true, true_and, if_true, if_false, not_true_eq_false, not_false_eq_true, Int.toNat_natCast, knV, ↓reduceIte, Int.reduceAdd, Int.reduceSub, Int.reduceMul, Int.reduceLE, Int.reduceLT, Int.reduceEq, Int.reduceToNat, Nat.reduceAdd, w32_1, w32_2, w32_3, w32_4, w32_5, w32_6, w32_7]
  · subst e
    simp only [b_D_passengerOf_0, b_D_passengerOf_44, b_D_passengerOf_50, b_D_passengerOf_51, b_D_passengerOf_60, b_D_passengerOf_61, b_D_passengerOf_66, b_D_passengerOf_67, b_D_passengerOf_72, b_D_passengerOf_73, b_D_passengerOf_87, s_D_landsBy hi hk hk2 hd hn, i10, ap_s, ap_n, and_self, and_true, true_and, if_true, if_false, not_true_eq_false, not_false_eq_true, Int.toNat_natCast, knV, ↓reduceIte, Int.reduceAdd, Int.reduceSub, Int.reduceMul, Int.reduceLE, Int.reduceLT, Int.reduceEq, Int.reduceToNat, Nat.reduceAdd, w32_1, w32_2, w32_3, w32_4, w32_5, w32_6, w32_7]
  · have e5 : w32 (w32 (w32 (1 + w32 (3 * (i : Int))) + w) - 1) = ((1 + 3 * i + v : Nat) : Int) := by rw [w32_eq (x := 3 * (i : Int)) (by omega) (by omega), w32_eq (x := 1 + 3 * (i : Int)) (by omega) (by omega), w32_eq (x := 1 + 3 * (i : Int) + w) (by omega) (by omega), w32_eq (by omega) (by omega)]; omega
    have e6 : knV (I 45 0 i) (lf3 (I 46 0) i) (I 46 0 (19 + i)) (I 46 0 0) w = I 46 0 (1 + 3 * i + v) := by
      unfold knV
      rw [if_neg (by omega), if_neg (by omega), if_neg (by omega), if_neg (by omega), show w - 1 = (v : Int) by omega, dg_lf hd hv]
    rw [e6, b_D_passengerOf_0, b_D_passengerOf_73, e5, and_iff_right (by omega), Int.toNat_natCast, b_D_passengerOf_87, if_neg (by omega)]
    (repeat' split) <;> first | rfl | (exfalso; omega)
theorem s_C_isP {i : Int} (h : Inv I J) : X d m_C_isPassenger 0 [some (vr 0 0), some (vi i)] [] (MM sc I J) Q ↔ Q (some (vi (if 0 ≤ i ∧ i < I 39 0 4 then 1 else 0))) (MM sc I J) := by
  rw [s_C_isPassenger, (inv_num h).1]
theorem op_passenger (h : Inv I J) (i w : Int) : OpI m_C_passenger m_D_passenger [some (vr 0 0), some (vi i), some (vi w)] [some (vr 39 0), some (vi i), some (vi w)] sc I J := by
  obtain ⟨n1, n2, n3, n4, n5, n6, n7, n8, n9⟩ := inv_num h
  by_cases hb : (0 ≤ i ∧ i < I 39 0 4) ∧ 0 ≤ w ∧ w ≤ 6
  · obtain ⟨⟨i0, i4⟩, w0, w6⟩ := hb
    obtain ⟨i, rfl⟩ := Int.eq_ofNat_of_zero_le i0
    obtain ⟨p1, p2, p3, p4, p5, p6, p7⟩ := inv_pas h i4
    have hL := lf3_in p6
    have w1 : ¬ w < 0 := by omega
    have e : knV (I 21 0 i) (I 22 0 i) (I 23 0 i) (I 20 0 8) w = knV (I 45 0 i) (lf3 (I 46 0) i) (I 46 0 (19 + i)) (I 46 0 0) w := by rw [p2, p4, p5, n4]
    refine ⟨1, upI I 0 0 6 (knV (I 45 0 i) (lf3 (I 46 0) i) (I 46 0 (19 + i)) (I 46 0 0) w), J, upI (upI I 0 0 6 (knV (I 45 0 i) (lf3 (I 46 0) i) (I 46 0 (19 + i)) (I 46 0 0) w)) 39 0 12 (knV (I 45 0 i) (lf3 (I 46 0) i) (I 46 0 (19 + i)) (I 46 0 0) w), J, fun d Q hQ => ?_, fun d Q hQ => ?_, ?_⟩
    · simp only [b_C_passenger_0, b_C_passenger_5, b_C_passenger_8, b_C_passenger_12, b_C_passenger_18, b_C_passenger_20, b_C_passenger_27, b_C_passenger_30, s_C_isP h, s_C_knownOf p1 (show 0 ≤ I 22 0 i by omega) (show I 22 0 i ≤ 999 by omega) (show 0 ≤ I 20 0 8 by omega) w0 w6, i0, i4, w1, w6, i10, ap_s, ap_n, and_self, and_true, true_and, if_true, if_false, not_true_eq_false, not_false_eq_true, Int.toNat_natCast, e]
      exact hQ
    · simp only [b_D_passenger_0, b_D_passenger_5, b_D_passenger_8, b_D_passenger_15, b_D_passenger_18, b_D_passenger_25, b_D_passenger_29, b_D_passenger_32, b_D_passenger_33, s_D_isOne (I := upI I 0 0 6 (knV (I 45 0 i) (lf3 (I 46 0) i) (I 46 0 (19 + i)) (I 46 0 0) w)) n2 n3, s_D_in, s_D_tells, s_D_passengerOf (I := upI I 0 0 6 (knV (I 45 0 i) (lf3 (I 46 0) i) (I 46 0 (19 + i)) (I 46 0 0) w)) (i := i) p1 p3.1 p3.2 p6 n5 w0 w6, i0, show (i : Int) < upI I 0 0 6 (knV (I 45 0 i) (lf3 (I 46 0) i) (I 46 0 (19 + i)) (I 46 0 0) w) 39 0 4 from i4, w0, w6, i10, ap_s, ap_n, and_self, and_true, true_and, if_true, if_false, not_true_eq_false, not_false_eq_true, Int.toNat_natCast]
      exact hQ
    · obtain ⟨h1, h2, h3, h4, h5, a1, a2, a3, a4, a5⟩ := h
      exact ⟨h1, h2, h3, h4, h5, a1, rfl, a3, a4, a5⟩
  · refine op_no h (-1) (fun d Q hQ => ?_) (fun d Q hQ => ?_)
    · simp only [b_C_passenger_0, b_C_passenger_5, b_C_passenger_8, b_C_passenger_12, b_C_passenger_18, s_C_isP h, i10, ap_s, ap_n, and_self, and_true, true_and, if_true, if_false, not_true_eq_false, not_false_eq_true, Int.toNat_natCast]
      (repeat' split) <;> first | exact hQ | (exfalso; simp_all; done) | (exfalso; simp_all; omega)
    · simp only [b_D_passenger_0, b_D_passenger_5, b_D_passenger_8, b_D_passenger_15, b_D_passenger_32, b_D_passenger_33, s_D_isOne n2 n3, s_D_in, i10, ap_s, ap_n, and_self, and_true, true_and, if_true, if_false, not_true_eq_false, not_false_eq_true, Int.toNat_natCast]
      (repeat' split) <;> first | exact hQ | (exfalso; simp_all; done) | (exfalso; simp_all; omega)
end AS
