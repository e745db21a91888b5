/-! LOTS, the loops and the calls -/
def gdC (A : TI) : Prop := ∃ m D : Nat, A 20 0 7 = m ∧ 1 ≤ m ∧ m ≤ 6 ∧ A 20 0 9 = D ∧ D < 40 ∧ (∀ j, j < m → 0 ≤ A 22 0 j ∧ A 22 0 j ≤ 999) ∧ (∀ j, j < m → A 23 0 j = 0 ∨ A 23 0 j = 1) ∧ 0 ≤ A 20 0 8 ∧ A 20 0 8 ≤ 1000
def gdD (C : TI) : Prop := ∃ m D : Nat, C 39 0 4 = m ∧ 1 ≤ m ∧ m ≤ 6 ∧ C 39 0 9 = D ∧ D < 40 ∧ (∀ j, j < m → 0 ≤ C 45 0 j ∧ C 45 0 j ≤ 5) ∧ (∀ j, j < m → dg3 (C 46 0) j) ∧ (∀ j, j < m → C 46 0 (19 + j) = 0 ∨ C 46 0 (19 + j) = 1) ∧ 0 ≤ C 46 0 0 ∧ C 46 0 0 ≤ 1000
theorem gd_of {A C J : TI} (h : Inv (mix A C) J) (h1 : 1 ≤ C 39 0 4) (hD : C 39 0 9 < 40) : gdC A ∧ gdD C := by
  obtain ⟨n1, n2, n3, n4, n5, n6, n7, n8, n9⟩ := inv_num h
  have m1 : A 20 0 7 = C 39 0 4 := n1
  have m2 : 0 ≤ C 39 0 4 := n2
  have m3 : C 39 0 4 ≤ 6 := n3
  have m4 : A 20 0 8 = C 46 0 0 := n4
  have m5 : 0 ≤ C 46 0 0 := n5
  have m6 : C 46 0 0 ≤ 40 := n6
  have m7 : A 20 0 9 = C 39 0 9 := n7
  have m8 : 0 ≤ C 39 0 9 := n8
  obtain ⟨m, hm⟩ := Int.eq_ofNat_of_zero_le m2
  obtain ⟨D, hDD⟩ := Int.eq_ofNat_of_zero_le m8
  have ps : ∀ j, j < m → _ := fun j hj => inv_pas h (i := j) (show (j : Int) < C 39 0 4 by omega)
  refine ⟨⟨m, D, by omega, by omega, by omega, by omega, by omega, fun j hj => ?_, fun j hj => ?_, by omega, by omega⟩, ⟨m, D, hm, by omega, by omega, hDD, by omega, fun j hj => ?_, fun j hj => ?_, fun j hj => ?_, m5, by omega⟩⟩
  · have e : A 22 0 j = lf3 (C 46 0) j := (ps j hj).2.2.2.1
    rw [e]
    exact lf3_in (ps j hj).2.2.2.2.2.1
  · have e : A 23 0 j = C 46 0 (19 + j) := (ps j hj).2.2.2.2.1
    rw [e]
    exact (ps j hj).2.2.2.2.2.2
  · exact (ps j hj).2.2.1
  · exact (ps j hj).2.2.2.2.2.1
  · exact (ps j hj).2.2.2.2.2.2
section LP
variable {d : Nat} {Q : Option AV → AMem → Prop} {sc : SC} {A C I J : TI}
theorem s_F_dbg {v : Int} (hg : gdC A) (hv : 0 ≤ v ∧ v ≤ 2147483646) : X (d + 4) m_F_doByLot 0 [some (vr 20 0), some (vi v), none] [] (MM sc A J) Q ↔ Q none (MM sc (cD A v) J) := by
  obtain ⟨m, D, hm, m1, m6, hD, D40, hL, hb, hc⟩ := hg
  have i0 := Int.emod_nonneg v (show (m : Int) ≠ 0 by omega)
  obtain ⟨i, hi⟩ := Int.eq_ofNat_of_zero_le i0
  rw [s_F_dbl hm m1 m6 hv hi hD D40 hL hb hc]
  unfold cD
  rw [hm, hi, hD, Int.toNat_natCast, Int.toNat_natCast]
theorem l_C_lo {n : Nat} {x : Int} (hn : n ≤ 100) (hx : 0 ≤ x ∧ x ≤ 2147483646) (hg : ∀ k, k < n → gdC (cA I x k)) : ∀ (m k : Nat), k + m = n → (X (d + 5) m_C_lots 60 [some (vr 0 0), some (vi (n : Int)), some (vi x), some (vl (lotK x k)), none, some (vi (k : Int))] [] (MM sc (cA I x k) J) Q ↔ X (d + 5) m_C_lots 91 [some (vr 0 0), some (vi (n : Int)), some (vi x), some (vl (lotK x n)), none, some (vi (n : Int))] [] (MM sc (cA I x n) J) Q)
  | 0, k, e => by
    have e1 : k = n := by omega
    subst e1
    rw [b_C_lots_60, if_pos (Int.le_refl _)]
  | m + 1, k, e => by
    have l := lot_in hx k
    have l1 := lot_in hx (k + 1)
    have ih := l_C_lo hn hx hg m (k + 1) (by omega)
    rw [b_C_lots_60, if_neg (by omega), b_C_lots_66, lot_w l, show lotK x k * 48271 % 2147483647 = lotK x (k + 1) from rfl, lot_32 l1, s_F_dbg (hg k (by omega)) l1, ap_n, b_C_lots_85, wsuc (by omega)]
    exact ih
theorem l_D_lo {n : Nat} {x : Int} (hn : n ≤ 100) (hx : 0 ≤ x ∧ x ≤ 2147483646) (hg : ∀ k, k < n → gdD (rA I x k)) (hQ : ∀ o6 o7 : Option AV, X (d + 3) m_D_lots 154 [some (vr 39 0), some (vi (n : Int)), some (vi x), some (vl (lotK x n)), none, some (vi (n : Int)), o6, o7] [] (MM sc (rA I x n) J) Q) : ∀ (m k : Nat) (o6 o7 : Option AV), k + m = n → X (d + 3) m_D_lots 52 [some (vr 39 0), some (vi (n : Int)), some (vi x), some (vl (lotK x k)), none, some (vi (k : Int)), o6, o7] [] (MM sc (rA I x k) J) Q
  | 0, k, o6, o7, e => by
    have e1 : k = n := by omega
    subst e1
    rw [b_D_lots_52, if_pos (Int.le_refl _)]
    exact hQ o6 o7
  | m + 1, k, o6, o7, e => by
    have l := lot_in hx k
    have hv := lot_in hx (k + 1)
    have ih := fun o6 o7 => l_D_lo hn hx hg hQ m (k + 1) o6 o7 (by omega)
    have kn : ¬ (n : Int) ≤ (k : Int) := by omega
    have ws := wsuc (k := k) (by omega)
    obtain ⟨M, D, hm, m1, m6, hD, D40, hK, hd, hb, hc⟩ := hg k (by omega)
    have i0 := Int.emod_nonneg (lotK x (k + 1)) (show (M : Int) ≠ 0 by omega)
    have il := Int.emod_lt_of_pos (lotK x (k + 1)) (show 0 < (M : Int) by omega)
    obtain ⟨i, hi⟩ := Int.eq_ofNat_of_zero_le i0
    rw [hi] at il
    have im : i < M := by omega
    have i6 : i < 6 := by omega
    have mz : ¬ (M : Int) = 0 := by omega
    rw [b_D_lots_52, if_neg kn, b_D_lots_58, lot_w l, show lotK x k * 48271 % 2147483647 = lotK x (k + 1) from rfl, lot_32 hv, hm, and_iff_right mz, tm_eq hv.1, hi, b_D_lots_79, s_D_notes hD D40, ap_n, b_D_lots_85, ltq8 hv]
    have er : rA I x (k + 1) = rDi (rA I x k) i D (lotK x (k + 1)) := by
      show rDi (rA I x k) (lotK x (k + 1) % rA I x k 39 0 4).toNat (rA I x k 39 0 9).toNat (lotK x (k + 1)) = _
      rw [hm, hi, hD, Int.toNat_natCast, Int.toNat_natCast]
    rw [er] at ih
    unfold rDi at ih
    generalize lotK x (k + 1) = v at *
    generalize rA I x k = B at *
    by_cases c : v / 8 % 8 = 7
    · obtain ⟨w, hw⟩ := Int.eq_ofNat_of_zero_le (show 0 ≤ v / 64 % 3 by omega)
      have c3 : 0 ≤ ((1 + 3 * i + w : Nat) : Int) ∧ ((1 + 3 * i + w : Nat) : Int) < 25 := by omega
      have e3 : w32 (w32 (1 + w32 (3 * (i : Int))) + (w : Int)) = ((1 + 3 * i + w : Nat) : Int) := by rw [w32_eq (x := 3 * (i : Int)) (by omega) (by omega), w32_eq (x := 1 + 3 * (i : Int)) (by omega) (by omega), w32_eq (by omega) (by omega)]; omega
      rw [if_pos c, hw, Int.toNat_natCast] at ih
      rw [if_pos c, b_D_lots_98, ltq3 hv, ltq10 hv, hw, e3, and_iff_right c3, Int.toNat_natCast, b_D_lots_126, b_D_lots_148, ws]
      exact ih _ _
    · have c0 : 0 ≤ v / 8 % 7 := by omega
      have c6 : v / 8 % 7 ≤ 6 := by omega
      rw [if_neg c] at ih
      rw [if_neg c, b_D_lots_129, ltq7 hv, s_D_crosses (I := nt B D) (t := 46) (i := i) (fun _ _ => rfl) i6 (hK i im).1 (hK i im).2 c0 c6 (hd i im) hc.1 hc.2 (hb i im), ap_s, b_D_lots_147, b_D_lots_148, ws]
      exact ih _ _
theorem lots_inv (h : Inv I J) {x : Int} {N D : Nat} (hx : 0 ≤ x ∧ x ≤ 2147483646) (hD : I 39 0 9 = D) (hDN : D + N ≤ 40) (hm : 1 ≤ I 39 0 4) : ∀ k : Nat, k ≤ N → Inv (mix (cA I x k) (rA (cA I x N) x k)) J ∧ rA (cA I x N) x k 39 0 9 = ((D + k : Nat) : Int) ∧ rA (cA I x N) x k 39 0 4 = I 39 0 4
  | 0, _ => by
    have e : mix (cA I x 0) (rA (cA I x N) x 0) = I := by
      funext t
      by_cases z : t < 39
      · rw [mx_lo z]; rfl
      · rw [mx_hi z]
        exact cA_hi (by omega) N
    rw [e]
    refine ⟨h, ?_, ?_⟩
    · show cA I x N 39 0 9 = _
      rw [cA_hi (Nat.le_refl _)]
      exact hD
    · show cA I x N 39 0 4 = _
      rw [cA_hi (Nat.le_refl _)]
  | k + 1, hk => by
    obtain ⟨g1, g2, g3⟩ := lots_inv h hx hD hDN hm k (by omega)
    have hv := lot_in hx (k + 1)
    obtain ⟨n1, n2, n3, n4, n5, n6, n7, n8, n9⟩ := inv_num g1
    have m1 : cA I x k 20 0 7 = I 39 0 4 := by rw [← g3]; exact n1
    have m7 : cA I x k 20 0 9 = ((D + k : Nat) : Int) := by rw [← g2]; exact n7
    have i0 := Int.emod_nonneg (lotK x (k + 1)) (show I 39 0 4 ≠ 0 by omega)
    have il := Int.emod_lt_of_pos (lotK x (k + 1)) (show 0 < I 39 0 4 by omega)
    obtain ⟨i, hi⟩ := Int.eq_ofNat_of_zero_le i0
    rw [hi] at il
    have ec : cA I x (k + 1) = cDi (cA I x k) i (D + k) (lotK x (k + 1)) := by
      show cDi (cA I x k) (lotK x (k + 1) % cA I x k 20 0 7).toNat (cA I x k 20 0 9).toNat (lotK x (k + 1)) = _
      rw [m1, hi, m7, Int.toNat_natCast, Int.toNat_natCast]
    have er : rA (cA I x N) x (k + 1) = rDi (rA (cA I x N) x k) i (D + k) (lotK x (k + 1)) := by
      show rDi (rA (cA I x N) x k) (lotK x (k + 1) % rA (cA I x N) x k 39 0 4).toNat (rA (cA I x N) x k 39 0 9).toNat (lotK x (k + 1)) = _
      rw [g3, hi, g2, Int.toNat_natCast, Int.toNat_natCast]
    rw [ec, er]
    have r39 := rDi_39 (C := rA (cA I x N) x k) (i := i) (D := D + k) (v := lotK x (k + 1))
    refine ⟨inv_lot g1 (by rw [g3]; exact il) g2 (by omega) hv.1, r39.1, ?_⟩
    rw [r39.2, g3]
theorem lc_lt (x y : Int) : l_cmp x y < 0 ↔ x < y := by
  unfold l_cmp
  (repeat' split) <;> omega
theorem op_lots (h : Inv I J) (n x : Int) : OpW m_C_lots m_D_lots [some (vr 0 0), some (vi n), some (vi x), none, none, none] [some (vr 39 0), some (vi n), some (vi x), none, none, none, none, none] sc I J := by
  obtain ⟨n1, n2, n3, n4, n5, n6, n7, n8, n9⟩ := inv_num h
  by_cases hb : (1 ≤ n ∧ n ≤ 20) ∧ 1 ≤ x ∧ x ≤ 2147483646
  · obtain ⟨⟨a1, a2⟩, x1, x2⟩ := hb
    have b1 : ¬ n < 1 := by omega
    have b2 : ¬ 20 < n := by omega
    have b3 : ¬ x < 1 := by omega
    have b4 : l_cmp x 2147483647 < 0 := (lc_lt _ _).mpr (by omega)
    by_cases he : I 39 0 4 = 0
    · have he2 : I 20 0 7 = 0 := by omega
      refine opW_no h (-4) (fun d Q hQ => ?_) (fun d Q hQ => ?_)
      · simp only [b_C_lots_0, b_C_lots_5, b_C_lots_11, b_C_lots_16, b_C_lots_25, b_C_lots_27, b_C_lots_34, b_C_lots_37, s_F_isEmpty, he2, b1, b2, b3, b4, i10, ap_s, ap_n, and_self, and_true, true_and, if_true, if_false, not_true_eq_false, not_false_eq_true, Int.toNat_natCast]
        exact hQ
      · simp only [b_D_lots_0, b_D_lots_7, b_D_lots_10, b_D_lots_17, b_D_lots_20, b_D_lots_22, b_D_lots_29, s_D_in, he, a1, a2, x1, x2, i10, ap_s, ap_n, and_self, and_true, true_and, if_true, if_false, not_true_eq_false, not_false_eq_true, Int.toNat_natCast]
        exact hQ
    · have he2 : ¬ I 20 0 7 = 0 := by omega
      obtain ⟨N, rfl⟩ := Int.eq_ofNat_of_zero_le (show 0 ≤ n by omega)
      obtain ⟨D, hD⟩ := Int.eq_ofNat_of_zero_le n8
      have hD2 : I 20 0 9 = D := by omega
      have D40 : D ≤ 40 := by omega
      have wD : w32 (I 39 0 9 + (N : Int)) = ((D + N : Nat) : Int) := by rw [hD, w32_eq (by omega) (by omega)]; omega
      by_cases hr : D + N ≤ 40
      · have r1 : (N : Int) ≤ 40 - (D : Int) := by clear wD; omega
        have r2 : ((D + N : Nat) : Int) ≤ 40 := by clear wD; omega
        have hx : 0 ≤ x ∧ x ≤ 2147483646 := ⟨by clear wD; omega, x2⟩
        have hm : 1 ≤ I 39 0 4 := by clear wD; omega
        have N100 : N ≤ 100 := by clear wD; omega
        obtain ⟨M, hM⟩ := Int.eq_ofNat_of_zero_le n2
        have M6 : M ≤ 6 := by clear wD; omega
        have li := lots_inv (J := J) h hx hD hr hm
        have gd : ∀ k, k < N → gdC (cA I x k) ∧ gdD (rA (cA I x N) x k) := fun k hk => gd_of (li k (Nat.le_of_lt hk)).1 (by rw [(li k (Nat.le_of_lt hk)).2.2]; exact hm) (by rw [(li k (Nat.le_of_lt hk)).2.1]; clear wD; omega)
        obtain ⟨f1, f2, f3⟩ := li N (Nat.le_refl _)
        obtain ⟨k1, k2, k3, k4, k5, k6, k7, k8, k9⟩ := inv_num f1
        have cm : cA I x N 20 0 7 = M := by rw [← hM, ← f3]; exact k1
        have rm : rA (cA I x N) x N 39 0 4 = M := by rw [f3, hM]
        have ae : acF (fun q => rA (cA I x N) x N 46 0 (19 + q)) M = acF (cA I x N 23 0) M := acF_eq (fun j hj => ((inv_pas f1 (i := j) (show (j : Int) < rA (cA I x N) x N 39 0 4 by rw [rm]; clear wD; omega)).2.2.2.2.1).symm)
        have fin : Inv (rA (cA I x N) x N) J := by
          have e : mix (cA I x N) (rA (cA I x N) x N) = rA (cA I x N) x N := by
            funext t
            by_cases z : t < 39
            · rw [mx_lo z, rA_lo z]
            · rw [mx_hi z]
          rw [e] at f1
          exact f1
        have c39 : cA I x N 39 = I 39 := cA_hi (Nat.le_refl _) N
        refine ⟨(acF (cA I x N 23 0) M), fun a b => a = cA I x N ∧ b = J, fun d Q hQ => ?_, fun a b hab d Q hQ => ?_⟩
        · have lc := (l_C_lo (d := d + 15) (Q := Q) (sc := sc) (I := I) (J := J) N100 hx (fun k hk => (gd k hk).1) N 0 (Nat.zero_add _))
          simp only [b_C_lots_0, b_C_lots_5, b_C_lots_11, b_C_lots_16, b_C_lots_25, b_C_lots_27, b_C_lots_34, b_C_lots_37, b_C_lots_40, b_C_lots_48, b_C_lots_51, b_C_lots_54, s_F_isEmpty, s_F_hasRoomFor hD2 D40, he2, b1, b2, b3, b4, r1, i10, ap_s, ap_n, and_self, and_true, true_and, if_true, if_false, not_true_eq_false, not_false_eq_true, Int.toNat_natCast]
          refine lc.mpr ?_
          rw [b_C_lots_91, s_F_obo M6 cm, ap_s, b_C_lots_98]
          exact hQ _ _ ⟨rfl, rfl⟩
        · obtain ⟨e1, e2⟩ := hab
          subst e1 e2
          simp only [b_D_lots_0, b_D_lots_7, b_D_lots_10, b_D_lots_17, b_D_lots_20, b_D_lots_22, b_D_lots_29, b_D_lots_32, b_D_lots_43, b_D_lots_46, s_D_in, c39, he, a1, a2, x1, x2, wD, r2, i10, ap_s, ap_n, and_self, and_true, true_and, if_true, if_false, not_true_eq_false, not_false_eq_true, Int.toNat_natCast]
          refine l_D_lo (d := d + 17) (I := cA I x N) N100 hx (fun k hk => (gd k hk).2) (fun o6 o7 => ?_) N 0 _ _ (Nat.zero_add _)
          rw [b_D_lots_154, s_D_across M6 rm, ap_s, b_D_lots_158, ae]
          exact hQ _ _ fin
      · have r1 : ¬ (N : Int) ≤ 40 - (D : Int) := by clear wD; omega
        have r2 : ¬ ((D + N : Nat) : Int) ≤ 40 := by clear wD; omega
        refine opW_no h (-2) (fun d Q hQ => ?_) (fun d Q hQ => ?_)
        · simp only [b_C_lots_0, b_C_lots_5, b_C_lots_11, b_C_lots_16, b_C_lots_25, b_C_lots_27, b_C_lots_34, b_C_lots_37, b_C_lots_40, b_C_lots_48, b_C_lots_51, s_F_isEmpty, s_F_hasRoomFor hD2 D40, he2, b1, b2, b3, b4, r1, i10, ap_s, ap_n, and_self, and_true, true_and, if_true, if_false, not_true_eq_false, not_false_eq_true, Int.toNat_natCast]
          exact hQ
        · simp only [b_D_lots_0, b_D_lots_7, b_D_lots_10, b_D_lots_17, b_D_lots_20, b_D_lots_22, b_D_lots_29, b_D_lots_32, b_D_lots_43, s_D_in, he, a1, a2, x1, x2, wD, r2, i10, ap_s, ap_n, and_self, and_true, true_and, if_true, if_false, not_true_eq_false, not_false_eq_true, Int.toNat_natCast]
          exact hQ
  · refine opW_no h (-1) (fun d Q hQ => ?_) (fun d Q hQ => ?_)
    · simp only [b_C_lots_0, b_C_lots_5, b_C_lots_11, b_C_lots_16, b_C_lots_25, lc_lt, i10, ap_s, ap_n, and_self, and_true, true_and, if_true, if_false, not_true_eq_false, not_false_eq_true, Int.toNat_natCast]
      (repeat' split) <;> first | exact hQ | (exfalso; omega)
    · simp only [b_D_lots_0, b_D_lots_7, b_D_lots_10, b_D_lots_17, b_D_lots_20, s_D_in, i10, ap_s, ap_n, and_self, and_true, true_and, if_true, if_false, not_true_eq_false, not_false_eq_true, Int.toNat_natCast]
      (repeat' split) <;> first | exact hQ | (exfalso; simp_all; done) | (exfalso; simp_all; omega)
end LP
