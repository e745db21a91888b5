/-! DUEL, the levels and the calls -/
section DW
variable {d : Nat} {Q : Option AV → AMem → Prop} {sc : SC} {I J : TI}
theorem l_D_dv {i j n k : Nat} {V0 V1 : Nat → Int} (hk : k < 4) (hV : ∀ (q : Nat) (F : Nat → Int), q < 7 ^ k → (∀ c, c < 7 → F c = V1 (7 * q + c)) → bst k F 6 = V0 q)
    (hQ : ∀ (W : Nat → Int) (x5 : Int) (o6 o7 o8 : Option AV), (∀ c, c < 7 ^ k → W c = V0 c) → X (d + 1) m_D_duel 267 [some (vr 39 0), some (vi (i : Int)), some (vi (j : Int)), some (vi (n : Int)), some (vi (k : Int)), some (vi x5), o6, o7, o8] [] (MM sc (up2 I 63 0 W) J) Q) : ∀ (r q : Nat) (W : Nat → Int) (o6 o7 o8 : Option AV), q + r = 7 ^ k → (∀ c, c < q → W c = V0 c) → (∀ c, q ≤ c → c < 7 ^ (k + 1) → W c = V1 c) → X (d + 1) m_D_duel 163 [some (vr 39 0), some (vi (i : Int)), some (vi (j : Int)), some (vi (n : Int)), some (vi (k : Int)), some (vi (q : Int)), o6, o7, o8] [] (MM sc (up2 I 63 0 W) J) Q
  | 0, q, W, o6, o7, o8, e, h1, h2 => by
    have e1 : q = 7 ^ k := by omega
    subst e1
    rw [b_D_duel_163, s_D_codesOf (by omega), ap_s, b_D_duel_170, if_pos (Int.le_refl _)]
    exact hQ W _ o6 o7 o8 h1
  | r + 1, q, W, o6, o7, o8, e, h1, h2 => by
    have hp : 7 ^ (k + 1) = 7 ^ k * 7 := Nat.pow_succ 7 k
    have pl := p7_le (show k + 1 ≤ 4 by omega)
    have q7 : 7 * q + 6 < 2401 := by omega
    have e7 : w32 (7 * (q : Int)) = ((7 * q : Nat) : Int) := by rw [w32_eq (by omega) (by omega)]; omega
    have ws := wsuc (k := q) (by omega)
    have ix : 0 ≤ ((7 * q : Nat) : Int) ∧ ((7 * q : Nat) : Int) < 2401 := by omega
    have iq : 0 ≤ (q : Int) ∧ (q : Int) < 2401 := by omega
    have key := hV q (fun c => up2 I 63 0 W 63 0 (7 * q + c)) (by omega) (fun c hc => by
      show up2 I 63 0 W 63 0 (7 * q + c) = V1 (7 * q + c)
      rw [up2_same]
      exact h2 (7 * q + c) (by omega) (by omega))
    rw [b_D_duel_163, s_D_codesOf (by omega), ap_s, b_D_duel_170, if_neg (by omega), b_D_duel_173, e7, and_iff_right ix, Int.toNat_natCast, b_D_duel_183]
    refine l_D_db (I := up2 I 63 0 W) (n := n) q7 (fun o => ?_) 6 0 o8 (by omega)
    rw [key, b_D_duel_252, and_iff_right iq, Int.toNat_natCast, up2_up, b_D_duel_261, ws]
    refine l_D_dv hk hV hQ r (q + 1) _ _ _ _ (by omega) (fun c hc => ?_) (fun c hc1 hc => ?_)
    · by_cases z : c = q
      · subst z
        exact if_pos rfl
      · exact (if_neg z).trans (h1 c (by omega))
    · exact (if_neg (by omega)).trans (h2 c (by omega) hc)
theorem l_D_du {i j n : Nat} {Vf : Nat → Nat → Int} (hn2 : n ≤ 2) (hV : ∀ (k q : Nat) (F : Nat → Int), k < 2 * n → q < 7 ^ k → (∀ c, c < 7 → F c = Vf (k + 1) (7 * q + c)) → bst k F 6 = Vf k q)
    (hQ : ∀ W : Nat → Int, Q (some (vi 1)) (MM sc (upI (up2 I 63 0 W) 39 0 12 (Vf 0 0)) J)) : ∀ (k : Nat) (W : Nat → Int) (o5 o6 o7 o8 : Option AV), k ≤ 2 * n → (∀ c, c < 7 ^ k → W c = Vf k c) → X (d + 1) m_D_duel 155 [some (vr 39 0), some (vi (i : Int)), some (vi (j : Int)), some (vi (n : Int)), some (vi ((k : Int) - 1)), o5, o6, o7, o8] [] (MM sc (up2 I 63 0 W) J) Q
  | 0, W, o5, o6, o7, o8, hk, h => by
    rw [b_D_duel_155, if_pos (by omega), b_D_duel_273, and_iff_right (by decide), b_D_duel_280, s_D_tells, ap_s, b_D_duel_284]
    show Q (some (vi 1)) (MM sc (upI (up2 I 63 0 W) 39 0 12 (W 0)) J)
    rw [h 0 (by decide)]
    exact hQ W
  | k + 1, W, o5, o6, o7, o8, hk, h => by
    have e : ((k + 1 : Nat) : Int) - 1 = (k : Int) := by omega
    have wp := wpred (q := k) (by omega)
    rw [e, b_D_duel_155, if_neg (by omega), b_D_duel_160]
    refine l_D_dv (V0 := Vf k) (V1 := Vf (k + 1)) (by omega) (fun q F hq hF => hV k q F (by omega) hq hF) (fun W' x5 o6 o7 o8 h' => ?_) (7 ^ k) 0 W _ _ _ (by omega) (fun c hc => by omega) (fun c _ hc => h c hc)
    rw [b_D_duel_267, wp]
    exact l_D_du hn2 hV hQ k W' _ _ _ _ (by omega) h'
theorem s_C_mtD {D t : Nat} {k L n : Int} (hD : t + 4 ≤ D) (ht : t ≤ 2) (hL : 0 ≤ L ∧ L ≤ 999) (hn : 0 ≤ n ∧ n ≤ 900) : X D m_C_mostTogether 0 [some (vi k), some (vi L), some (vi n), some (vi (t : Int)), none, none, none] [] (MM sc I J) Q ↔ Q (some (vi (mt k t L n))) (MM sc I J) := by
  obtain ⟨d, rfl⟩ : ∃ d, D = d + 4 + t := ⟨D - 4 - t, by omega⟩
  exact s_C_mt t ht hL (by omega)
theorem op_duel (h : Inv I J) (i j n : Int) : OpW m_C_duel m_D_duel [some (vr 0 0), some (vi i), some (vi j), some (vi n), none, none] [some (vr 39 0), some (vi i), some (vi j), some (vi n), none, none, none, none, none] sc I J := by
  obtain ⟨n1, n2, n3, n4, n5, n6, n7, n8, n9⟩ := inv_num h
  by_cases hb : 0 ≤ i ∧ i < I 39 0 4
  · by_cases hb2 : 0 ≤ j ∧ j < I 39 0 4
    · by_cases hij : i = j
      · refine opW_no h (-1) (fun d Q hQ => ?_) (fun d Q hQ => ?_)
        · simp only [b_C_duel_0, b_C_duel_5, b_C_duel_8, b_C_duel_13, b_C_duel_16, b_C_duel_21, b_C_duel_25, b_C_duel_30, s_C_isP h, hb, hb2, hij, i10, ap_s, ap_n, and_self, and_true, true_and, if_true, if_false, not_true_eq_false, not_false_eq_true, Int.toNat_natCast]
          exact hQ
        · simp only [b_D_duel_0, b_D_duel_5, b_D_duel_8, b_D_duel_13, b_D_duel_16, b_D_duel_21, b_D_duel_27, b_D_duel_30, s_D_isOne n2 n3, hb, hb2, hij, i10, ap_s, ap_n, and_self, and_true, true_and, if_true, if_false, not_true_eq_false, not_false_eq_true, Int.toNat_natCast]
          exact hQ
      · by_cases hb3 : 0 ≤ n ∧ n ≤ 2
        · obtain ⟨i0, i4⟩ := hb
          obtain ⟨j0, j4⟩ := hb2
          obtain ⟨m0, m2⟩ := hb3
          obtain ⟨i, rfl⟩ := Int.eq_ofNat_of_zero_le i0
          obtain ⟨j, rfl⟩ := Int.eq_ofNat_of_zero_le j0
          obtain ⟨n, rfl⟩ := Int.eq_ofNat_of_zero_le m0
          obtain ⟨p1, p2, p3, p4, p5, p6, p7⟩ := inv_pas h i4
          obtain ⟨r1, r2, r3, r4, r5, r6, r7⟩ := inv_pas h j4
          have hLi := lf3_in p6
          have hLj := lf3_in r6
          have ijn : i ≠ j := fun z => hij (by rw [z])
          have m1 : ¬ (n : Int) < 0 := by omega
          have i6 : (i : Int) < 6 := by omega
          have j6 : (j : Int) < 6 := by omega
          have hn2 : n ≤ 2 := by omega
          have va := mt_in (k := I 45 0 i) n (n := I 46 0 0) hLi
          have vb := mt_in (k := I 45 0 j) n (n := I 46 0 0 + 1) hLj
          generalize hV : mt (I 45 0 i) n (lf3 (I 46 0) i) (I 46 0 0) - mt (I 45 0 j) n (lf3 (I 46 0) j) (I 46 0 0 + 1) = V
          refine ⟨1, fun a b => a = upI I 0 0 6 V ∧ b = J, fun d Q hQ => ?_, fun a b hab d Q hQ => ?_⟩
          · have mi := fun (D : Nat) (hD : 6 ≤ D) Q => s_C_mtD (D := D) (Q := Q) (sc := sc) (I := I) (J := J) (t := n) (k := I 45 0 i) (L := lf3 (I 46 0) i) (n := I 46 0 0) (by omega) hn2 hLi (by omega)
            have mj := fun (D : Nat) (hD : 6 ≤ D) Q => s_C_mtD (D := D) (Q := Q) (sc := sc) (I := I) (J := J) (t := n) (k := I 45 0 j) (L := lf3 (I 46 0) j) (n := I 46 0 0 + 1) (by omega) hn2 hLj (by omega)
            simp only [b_C_duel_0, b_C_duel_5, b_C_duel_8, b_C_duel_13, b_C_duel_16, b_C_duel_21, b_C_duel_25, b_C_duel_30, b_C_duel_32, b_C_duel_41, b_C_duel_50, s_C_isP h, i0, i4, j0, j4, i6, hij, m1, m2, i10, ap_s, ap_n, and_self, and_true, true_and, if_true, if_false, not_true_eq_false, not_false_eq_true, Int.toNat_natCast, p2, p4, n4]
            refine (mi _ (by omega) _).mpr ?_
            rw [ap_s, b_C_duel_61, and_iff_right ⟨j0, j6⟩, Int.toNat_natCast, r2, b_C_duel_72, and_iff_right ⟨j0, j6⟩, Int.toNat_natCast, r4, b_C_duel_81, n4, w32_eq (by omega) (by omega)]
            refine (mj _ (by omega) _).mpr ?_
            rw [ap_s, b_C_duel_94, w32_eq (by omega) (by omega), b_C_duel_105, hV]
            exact hQ _ _ ⟨rfl, rfl⟩
          · obtain ⟨e1, e2⟩ := hab
            subst e1 e2
            simp only [b_D_duel_0, b_D_duel_5, b_D_duel_8, b_D_duel_13, b_D_duel_16, b_D_duel_21, b_D_duel_27, b_D_duel_30, b_D_duel_32, s_D_isOne (I := upI I 0 0 6 V) n2 n3, s_D_in, show upI I 0 0 6 V 39 = I 39 from rfl, i0, i4, j0, j4, hij, m0, m2, i10, ap_s, ap_n, and_self, and_true, true_and, if_true, if_false, not_true_eq_false, not_false_eq_true, Int.toNat_natCast]
            have w2 : w32 (w32 (2 * (n : Int)) - 1) = ((2 * n : Nat) : Int) - 1 := by rw [w32_eq (x := 2 * (n : Int)) (by omega) (by omega), w32_eq (by omega) (by omega)]; omega
            have key := l_D_dc (d := d + 17) (Q := Q) (sc := sc) (I := upI I 0 0 6 V) (J := b) (n := n) (N := 2 * n) p1 r1 ijn p3 r3 p6 r6 p7 r7 ⟨n5, show I 46 0 0 ≤ 900 by omega⟩ rfl hn2 (fun W s o5 o6 hW => by
              rw [wk2, b_D_duel_148, w2]
              refine l_D_du (d := d + 19) (I := up2 (upI I 0 0 6 V) 47 0 s) (Vf := fun k q => duV (I 45 0 i) (I 45 0 j) (lf3 (I 46 0) i) (lf3 (I 46 0) j) (I 46 0 0) n k q) hn2 (fun k q F hk hq hF => duV_step hLi hLj hk hF) (fun W' => ?_) (2 * n) W _ _ _ _ (Nat.le_refl _) hW
              show Q (some (vi 1)) (MM sc (upI (up2 (up2 (upI I 0 0 6 V) 47 0 s) 63 0 W') 39 0 12 (duV (I 45 0 i) (I 45 0 j) (lf3 (I 46 0) i) (lf3 (I 46 0) j) (I 46 0 0) n 0 0)) b)
              rw [duV_root, hV]
              refine hQ _ _ ?_
              obtain ⟨h1, h2, h3, h4, h5, a1, a2, a3, a4, a5⟩ := h
              exact ⟨h1, h2, h3, h4, h5, a1, rfl, a3, a4, a5⟩) (7 ^ (2 * n)) 0 (upI I 0 0 6 V 63 0) (upI I 0 0 6 V 47 0) none none (by omega) (fun c hc => by omega)
            rw [up2_self, up2_self] at key
            exact key
        · refine opW_no h (-1) (fun d Q hQ => ?_) (fun d Q hQ => ?_)
          · simp only [b_C_duel_0, b_C_duel_5, b_C_duel_8, b_C_duel_13, b_C_duel_16, b_C_duel_21, b_C_duel_25, b_C_duel_30, s_C_isP h, hb, hb2, hij, i10, ap_s, ap_n, and_self, and_true, true_and, if_true, if_false, not_true_eq_false, not_false_eq_true, Int.toNat_natCast]
            (repeat' split) <;> first | exact hQ | (exfalso; omega)
          · simp only [b_D_duel_0, b_D_duel_5, b_D_duel_8, b_D_duel_13, b_D_duel_16, b_D_duel_21, b_D_duel_27, b_D_duel_30, s_D_isOne n2 n3, s_D_in, hb, hb2, hb3, hij, i10, ap_s, ap_n, and_self, and_true, true_and, if_true, if_false, not_true_eq_false, not_false_eq_true, Int.toNat_natCast]
            exact hQ
    · refine opW_no h (-1) (fun d Q hQ => ?_) (fun d Q hQ => ?_)
      · simp only [b_C_duel_0, b_C_duel_5, b_C_duel_8, b_C_duel_13, b_C_duel_16, b_C_duel_21, b_C_duel_25, b_C_duel_30, s_C_isP h, hb, hb2, i10, ap_s, ap_n, and_self, and_true, true_and, if_true, if_false, not_true_eq_false, not_false_eq_true, Int.toNat_natCast]
        exact hQ
      · simp only [b_D_duel_0, b_D_duel_5, b_D_duel_8, b_D_duel_13, b_D_duel_16, b_D_duel_21, b_D_duel_27, b_D_duel_30, s_D_isOne n2 n3, hb, hb2, i10, ap_s, ap_n, and_self, and_true, true_and, if_true, if_false, not_true_eq_false, not_false_eq_true, Int.toNat_natCast]
        exact hQ
  · refine opW_no h (-1) (fun d Q hQ => ?_) (fun d Q hQ => ?_)
    · simp only [b_C_duel_0, b_C_duel_5, b_C_duel_8, b_C_duel_13, b_C_duel_16, b_C_duel_21, b_C_duel_25, b_C_duel_30, s_C_isP h, hb, i10, ap_s, ap_n, and_self, and_true, true_and, if_true, if_false, not_true_eq_false, not_false_eq_true, Int.toNat_natCast]
      exact hQ
    · simp only [b_D_duel_0, b_D_duel_5, b_D_duel_8, b_D_duel_13, b_D_duel_16, b_D_duel_21, b_D_duel_27, b_D_duel_30, s_D_isOne n2 n3, hb, i10, ap_s, ap_n, and_self, and_true, true_and, if_true, if_false, not_true_eq_false, not_false_eq_true, Int.toNat_natCast]
      exact hQ
end DW
