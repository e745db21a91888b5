/-! BOATS, the calls -/
section BE
variable {d : Nat} {Q : Option AV → AMem → Prop} {sc : SC} {I J : TI}
theorem s_F_hv {i0 n : Nat} (hn : n ≤ 6) (hs : I 20 i0 7 = n) (hL : ∀ j, j < n → 0 ≤ I 22 i0 j ∧ I 22 i0 j ≤ 999) : X (d + 2) m_F_heaviest 0 [some (vr 20 i0), none, none] [] (MM sc I J) Q ↔ Q (some (vi (hvF (I 21 i0) (I 22 i0) n))) (MM sc I J) := by
  rw [b_F_heaviest_0]
  exact l_F_hv hn hs hL n 0 (by omega)
theorem op_boats (h : Inv I J) (lo : Int) : OpW m_C_boats m_D_boats [some (vr 0 0), some (vi lo), none, none] [some (vr 39 0), some (vi lo), none, none, none] sc I J := by
  obtain ⟨n1, n2, n3, n4, n5, n6, n7, n8, n9⟩ := inv_num h
  by_cases hb : 0 ≤ lo ∧ lo ≤ 99
  · obtain ⟨v0, v1⟩ := hb
    have v2 : ¬ lo < 0 := by omega
    by_cases he : I 39 0 4 = 0
    · have he2 : I 20 0 7 = 0 := by omega
      refine opW_no h (-4) (fun d Q hQ => ?_) (fun d Q hQ => ?_)
      · simp only [b_C_boats_0, b_C_boats_4, b_C_boats_10, b_C_boats_12, b_C_boats_19, b_C_boats_22, s_F_isEmpty, he2, v1, v2, i10, ap_s, ap_n, and_self, and_true, true_and, if_true, if_false, not_true_eq_false, not_false_eq_true, Int.toNat_natCast]
        exact hQ
      · simp only [b_D_boats_0, b_D_boats_7, b_D_boats_10, b_D_boats_12, b_D_boats_19, s_D_in, he, v0, v1, i10, ap_s, ap_n, and_self, and_true, true_and, if_true, if_false, not_true_eq_false, not_false_eq_true, Int.toNat_natCast]
        exact hQ
    · have he2 : ¬ I 20 0 7 = 0 := by omega
      obtain ⟨n, hn⟩ := Int.eq_ofNat_of_zero_le n2
      have hn6 : n ≤ 6 := by omega
      have hn1 : 1 ≤ n := by omega
      have hp := pow_in hn6
      have hp2 := Nat.pow_le_pow_right (show 0 < 2 by decide) hn1
      have hs : I 20 0 7 = n := by omega
      have ps : ∀ j, j < n → _ := fun j hj => inv_pas h (i := j) (by omega)
      have hd : ∀ j, j < n → dg3 (I 46 0) j := fun j hj => (ps j hj).2.2.2.2.2.1
      have hL : ∀ j, j < n → 0 ≤ I 22 0 j ∧ I 22 0 j ≤ 999 := fun j hj => by rw [(ps j hj).2.2.2.1]; exact lf3_in (hd j hj)
      have We : ∀ q : Nat, wSF (I 21 0) (I 22 0) (q : Int) n = wSF (I 45 0) (lf3 (I 46 0)) (q : Int) n := fun q => wSF_eq (fun j hj => ⟨(ps j hj).2.1, (ps j hj).2.2.2.1⟩)
      have Weq : (fun q : Nat => wSF (I 21 0) (I 22 0) (q : Int) n) = fun q : Nat => wSF (I 45 0) (lf3 (I 46 0)) (q : Int) n := funext We
      obtain ⟨A, hA⟩ : ∃ A, A + 1 = 2 ^ n := ⟨2 ^ n - 1, by omega⟩
      have esh : w32 (i_shl 1 (n : Int) - 1) = (A : Int) := by rw [shl_n hn6, w32_eq (by omega) (by omega)]; omega
      have hve : hvF (I 21 0) (I 22 0) n ≤ lo ↔ ∀ j, j < n → wtK (I 45 0 j) (lf3 (I 46 0) j) ≤ lo := by
        rw [hv_le v0]
        constructor
        · intro z j hj
          have := z j hj
          rw [(ps j hj).2.1, (ps j hj).2.2.2.1] at this
          exact this
        · intro z j hj
          rw [(ps j hj).2.1, (ps j hj).2.2.2.1]
          exact z j hj
      by_cases hw : ∀ j, j < n → wtK (I 45 0 j) (lf3 (I 46 0) j) ≤ lo
      · have hv := hve.mpr hw
        have A64 : A + 1 ≤ 64 := by omega
        have A1 : 1 ≤ A := by omega
        obtain ⟨T, hT⟩ := tb_ex (P := P1 (fun q : Nat => wSF (I 45 0) (lf3 (I 46 0)) (q : Int) n) lo) sbP1 7 A A64
        have hwl : ∀ s, 1 ≤ s → s < A + 1 → (fun q : Nat => wSF (I 45 0) (lf3 (I 46 0)) (q : Int) n) (lb s) ≤ lo := fun s a b => w_lb hn6 hw a (by omega)
        have Tin := tb_in sbP1 (by decide) A64 hT
        obtain ⟨b, b1, b2, b3, b4⟩ := t1_ex A64 hT hwl (s := A) A1 (by omega)
        have lba : lb A = 1 := by
          have := lb_all ⟨n, by omega⟩ hn1
          rw [show A = 2 ^ n - 1 by omega]
          exact this
        have bo : b % 2 = 1 := by
          have := b3.1
          rw [lba, Nat.and_one_is_mod] at this
          omega
        obtain ⟨b0, f1, f2, f3⟩ := least_of (F := fun b : Nat => b % 2 = 1 ∧ wSF (I 45 0) (lf3 (I 46 0)) (b : Int) n ≤ lo ∧ T (sd A b) + 1 = T A) b ⟨bo, b3.2.2, b4.symm⟩
        have b0A : b0 ≤ A := by omega
        have b0o : b0 % 2 = 1 := f1.1
        have sdl : ∀ q, q ≤ A → sd A q < A + 1 := fun q hq => by
          have := sd_le (show A < 64 by omega) (show q < 64 by omega)
          omega
        refine ⟨(T A), fun a b => (∃ T' : Nat → Int, a = upI (up2 I 13 0 T') 0 0 6 (b0 : Int)) ∧ b = J, fun d Q hQ => ?_, fun a b hab d Q hQ => ?_⟩
        · simp only [b_C_boats_0, b_C_boats_4, b_C_boats_10, b_C_boats_12, b_C_boats_19, b_C_boats_22, b_C_boats_25, s_F_isEmpty, he2, v1, v2, i10, ap_s, ap_n, and_self, and_true, true_and, if_true, if_false, not_true_eq_false, not_false_eq_true, Int.toNat_natCast]
          refine (s_F_hv hn6 hs hL).mpr ?_
          rw [ap_s, b_C_boats_32, if_pos hv, b_C_boats_39, b_F_setCount_0, ap_s, hs, b_C_boats_46, and_iff_right (by decide), esh, b_C_boats_56]
          refine l_C_bt (d := d + 15) hA hn6 hs hL (fun T' hT' => ?_) A 1 (upF (I 13 0) 0 0) (by omega) (Nat.le_refl _) ⟨rfl, fun s a b => by omega⟩
          rw [Weq] at hT'
          have eT := tb_un sbP1 A64 hT' hT
          have Tin' := tb_in sbP1 (by decide) A64 hT'
          have hF' : b0 % 2 = 1 ∧ wSF (I 21 0) (I 22 0) b0 n ≤ lo ∧ T' (sd A b0) + 1 = T' A := ⟨b0o, by rw [We]; exact f1.2.1, by rw [eT _ (sdl b0 b0A), eT A (by omega)]; exact f1.2.2⟩
          have hN' : ∀ b, b < b0 → ¬ (b % 2 = 1 ∧ wSF (I 21 0) (I 22 0) b n ≤ lo ∧ T' (sd A b) + 1 = T' A) := fun b hb z => f3 b hb ⟨z.1, by rw [← We]; exact z.2.1, by rw [← eT _ (sdl b (by omega)), ← eT A (by omega)]; exact z.2.2⟩
          rw [b_C_boats_81, b_C_firstBoat_0]
          refine (l_C_first (d := d + 15) (I := up2 I 13 0 T') (b0 := b0) hA hn6 hs hL Tin' b0A hF' hN' (b0 - 1) 1 (by omega) (Nat.le_refl _)).mpr ?_
          rw [ap_s, b_C_boats_88, b_C_boats_91, and_iff_right (by omega), Int.toNat_natCast, b_C_boats_97]
          show Q (some (vi (T' A))) (MM sc (upI (up2 I 13 0 T') 0 0 6 (b0 : Int)) J)
          rw [eT A (by omega)]
          exact hQ _ _ ⟨⟨T', rfl⟩, rfl⟩
        · obtain ⟨⟨T1, e1⟩, e2⟩ := hab
          subst e1 e2
          simp only [b_D_boats_0, b_D_boats_7, b_D_boats_10, b_D_boats_12, b_D_boats_19, b_D_boats_22, s_D_in, show upI (up2 I 13 0 T1) 0 0 6 (b0 : Int) 39 = I 39 from rfl, he, v0, v1, i10, ap_s, ap_n, and_self, and_true, true_and, if_true, if_false, not_true_eq_false, not_false_eq_true, Int.toNat_natCast]
          rw [hn, esh]
          refine l_D_hv (d := d + 17) (I := upI (up2 I 13 0 T1) 0 0 6 (b0 : Int)) (n := n) hn6 hn hd (fun z => absurd hw z) (fun _ => ?_) n 0 (by omega) (fun q hq => by omega)
          rw [b_D_boats_59, and_iff_right (by decide), b_D_boats_66]
          refine l_D_bt (d := d + 17) (I := upI (up2 I 13 0 T1) 0 0 6 (b0 : Int)) (n := n) hA hn6 hn hd (fun T' o hT' => ?_) A 1 (upF (I 62 0) 0 0) none (by omega) (Nat.le_refl _) ⟨rfl, fun s a b => by omega⟩
          have eT := t12 A64 hT hT' hwl
          have Tin' := tb_in sbP2 (by decide) A64 hT'
          have hF' : b0 % 2 = 1 ∧ wSF (I 45 0) (lf3 (I 46 0)) b0 n ≤ lo ∧ T' (sd A b0) + 1 = T' A := ⟨b0o, f1.2.1, by rw [eT _ (sdl b0 b0A), eT A (by omega)]; exact f1.2.2⟩
          have hN' : ∀ b, b < b0 → ¬ (b % 2 = 1 ∧ wSF (I 45 0) (lf3 (I 46 0)) b n ≤ lo ∧ T' (sd A b) + 1 = T' A) := fun b hb z => f3 b hb ⟨z.1, z.2.1, by rw [← eT _ (sdl b (by omega)), ← eT A (by omega)]; exact z.2.2⟩
          rw [b_D_boats_162]
          refine (l_D_first (d := d + 17) (I := up2 (upI (up2 I 13 0 T1) 0 0 6 (b0 : Int)) 62 0 T') (b0 := b0) (n := n) hA hn6 hn hd Tin' b0A hF' hN' ((b0 - 1) / 2) 1 (by omega)).mpr ?_
          show Q (some (vi (T' A))) _
          rw [eT A (by omega)]
          refine hQ _ _ ?_
          obtain ⟨h1, h2, h3, h4, h5, a1, a2, a3, a4, a5⟩ := h
          exact ⟨h1, h2, h3, h4, h5, a1, rfl, a3, a4, a5⟩
      · have hv : ¬ hvF (I 21 0) (I 22 0) n ≤ lo := fun z => hw (hve.mp z)
        refine opW_no h (-9) (fun d Q hQ => ?_) (fun d Q hQ => ?_)
        · simp only [b_C_boats_0, b_C_boats_4, b_C_boats_10, b_C_boats_12, b_C_boats_19, b_C_boats_22, b_C_boats_25, s_F_isEmpty, he2, v1, v2, i10, ap_s, ap_n, and_self, and_true, true_and, if_true, if_false, not_true_eq_false, not_false_eq_true, Int.toNat_natCast]
          refine (s_F_hv hn6 hs hL).mpr ?_
          rw [ap_s, b_C_boats_32, if_neg hv, b_C_boats_36]
          exact hQ
        · simp only [b_D_boats_0, b_D_boats_7, b_D_boats_10, b_D_boats_12, b_D_boats_19, b_D_boats_22, s_D_in, he, v0, v1, i10, ap_s, ap_n, and_self, and_true, true_and, if_true, if_false, not_true_eq_false, not_false_eq_true, Int.toNat_natCast]
          exact l_D_hv (d := d + 17) (n := n) hn6 hn hd (fun _ => hQ) (fun z => absurd z hw) n 0 (by omega) (fun q hq => by omega)
  · refine opW_no h (-1) (fun d Q hQ => ?_) (fun d Q hQ => ?_)
    · simp only [b_C_boats_0, b_C_boats_4, b_C_boats_10, i10, ap_s, ap_n, and_self, and_true, true_and, if_true, if_false, not_true_eq_false, not_false_eq_true, Int.toNat_natCast]
      (repeat' split) <;> first | exact hQ | (exfalso; omega)
    · simp only [b_D_boats_0, b_D_boats_7, b_D_boats_10, s_D_in, hb, i10, ap_s, ap_n, and_self, and_true, true_and, if_true, if_false, not_true_eq_false, not_false_eq_true, Int.toNat_natCast]
      exact hQ
end BE
