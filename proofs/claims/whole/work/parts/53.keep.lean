/-! KEEP, ON -/
def tfI (I : TI) (a b : Nat) : TI := fun t i p => if i = a ∧ ((t = 20 ∧ 7 ≤ p ∧ p ≤ 9) ∨ (21 ≤ t ∧ t ≤ 23 ∧ p < 6) ∨ (24 ≤ t ∧ t ≤ 27 ∧ p < 40)) then I t b p else I t i p
section KE
variable {d : Nat} {Q : Option AV → AMem → Prop} {sc : SC} {I J : TI}
theorem s_F_takeFrom {a b : Nat} (hab : b ≠ a) : X d m_F_takeFrom 0 [some (vr 20 a), some (vr 20 b)] [] (MM sc I J) Q ↔ Q none (MM sc (tfI I a b) J) := by
  have e6 : (0 ≤ (0 : Int) ∧ 0 ≤ (0 : Int) ∧ 0 ≤ (6 : Int) ∧ (0 : Int) + (6 : Int) ≤ 6 ∧ (0 : Int) + (6 : Int) ≤ 6) := by decide
  have e40 : (0 ≤ (0 : Int) ∧ 0 ≤ (0 : Int) ∧ 0 ≤ (40 : Int) ∧ (0 : Int) + (40 : Int) ≤ 40 ∧ (0 : Int) + (40 : Int) ≤ 40) := by decide
  rw [b_F_takeFrom_0, b_F_takeFrom_8, b_F_takeFrom_16, b_F_takeFrom_24, and_iff_right e6, b_F_takeFrom_39, and_iff_right e6, b_F_takeFrom_54, and_iff_right e6, b_F_takeFrom_69, and_iff_right e40, b_F_takeFrom_84, and_iff_right e40, b_F_takeFrom_99, and_iff_right e40, b_F_takeFrom_114, and_iff_right e40, b_F_takeFrom_129, show (0 : Int).toNat = 0 from rfl, show (6 : Int).toNat = 6 from rfl, show (40 : Int).toNat = 40 from rfl]
  generalize hK : (MM sc (tfI I a b) J) = K
  rw [← hK]
  have key : ∀ I' : TI, I' = tfI I a b → (Q none (MM sc I' J) ↔ Q none (MM sc (tfI I a b) J)) := fun I' h => by rw [h]
  apply key
  funext t i p
  simp only [rd_up2, rd_up, cpF]
  unfold tfI
  by_cases hi : i = a
  · subst hi
    have hb : (b = i) = False := eq_false hab
    by_cases h27 : t = 27
    · subst h27; simp [hb]
    by_cases h26 : t = 26
    · subst h26; simp [hb]
    by_cases h25 : t = 25
    · subst h25; simp [hb]
    by_cases h24 : t = 24
    · subst h24; simp [hb]
    by_cases h23 : t = 23
    · subst h23; simp [hb]
    by_cases h22 : t = 22
    · subst h22; simp [hb]
    by_cases h21 : t = 21
    · subst h21; simp [hb]
    by_cases h20 : t = 20
    · subst h20
      by_cases p7 : p = 7
      · subst p7; simp [hb]
      by_cases p8 : p = 8
      · subst p8; simp [hb]
      by_cases p9 : p = 9
      · subst p9; simp [hb]
      rw [if_neg (show ¬ (i = i ∧ ((20 = 20 ∧ 7 ≤ p ∧ p ≤ 9) ∨ (21 ≤ 20 ∧ 20 ≤ 23 ∧ p < 6) ∨ (24 ≤ 20 ∧ 20 ≤ 27 ∧ p < 40))) by omega)]
      simp [p7, p8, p9]
    rw [if_neg (show ¬ (i = i ∧ ((t = 20 ∧ 7 ≤ p ∧ p ≤ 9) ∨ (21 ≤ t ∧ t ≤ 23 ∧ p < 6) ∨ (24 ≤ t ∧ t ≤ 27 ∧ p < 40))) by omega)]
    simp [h20, h21, h22, h23, h24, h25, h26, h27]
  · simp [hi]
theorem s_F_isEmpty {i0 : Nat} : X d m_F_isEmpty 0 [some (vr 20 i0)] [] (MM sc I J) Q ↔ Q (some (vi (if I 20 i0 7 = 0 then 1 else 0))) (MM sc I J) := by
  simp only [b_F_isEmpty_0, b_F_isEmpty_7, b_F_isEmpty_11, b_F_isEmpty_12]
  (repeat' split) <;> first | (simp; done) | (exfalso; omega)
def kpI (I : TI) (k : Nat) : TI := brI (brI (upI (upI I 51 0 k 1) 50 0 (1026 * k) (I 39 0 9)) 46 0 0 50 0 (1026 * k + 1) 25) 48 0 0 50 0 (1026 * k + 26) 1000
def onI (I : TI) (k : Nat) : TI := brI (brI (upI I 39 0 9 (I 50 0 (1026 * k))) 50 0 (1026 * k + 1) 46 0 0 25) 50 0 (1026 * k + 26) 48 0 0 1000
theorem op_keep (h : Inv I J) (k : Int) : OpI m_C_keep m_D_keep [some (vr 0 0), some (vi k)] [some (vr 39 0), some (vi k), none] sc I J := by
  obtain ⟨n1, n2, n3, n4, n5, n6, n7, n8, n9⟩ := inv_num h
  by_cases hb : 0 ≤ k ∧ k ≤ 2
  · obtain ⟨k0, k2⟩ := hb
    obtain ⟨k, rfl⟩ := Int.eq_ofNat_of_zero_le k0
    have k3 : (k : Int) < 3 := by omega
    by_cases he : I 39 0 4 = 0
    · have he2 : I 20 0 7 = 0 := by omega
      refine op_no h (-4) (fun d Q hQ => ?_) (fun d Q hQ => ?_)
      · simp only [b_C_keep_0, b_C_keep_4, b_C_keep_7, b_C_keep_9, b_C_keep_16, b_C_keep_19, b_C_keep_22, b_C_keep_28, b_C_keep_35, s_C_isPlaceKept, s_F_isEmpty, he2, k0, k2, i10, ap_s, ap_n, and_self, and_true, true_and, if_true, if_false, not_true_eq_false, not_false_eq_true, Int.toNat_natCast]
        exact hQ
      · simp only [b_D_keep_0, b_D_keep_6, b_D_keep_9, b_D_keep_11, b_D_keep_18, b_D_keep_21, b_D_keep_34, b_D_keep_44, b_D_keep_61, b_D_keep_82, s_D_in, he, k0, k2, i10, ap_s, ap_n, and_self, and_true, true_and, if_true, if_false, not_true_eq_false, not_false_eq_true, Int.toNat_natCast]
        exact hQ
    · have he2 : ¬ I 20 0 7 = 0 := by omega
      have e1 : w32 (1026 * (k : Int)) = ((1026 * k : Nat) : Int) := by rw [w32_eq (by omega) (by omega)]; omega
      have e2 : w32 (((1026 * k : Nat) : Int) + 1) = ((1026 * k + 1 : Nat) : Int) := by rw [w32_eq (by omega) (by omega)]; omega
      have e3 : w32 (((1026 * k + 1 : Nat) : Int) + 25) = ((1026 * k + 26 : Nat) : Int) := by rw [w32_eq (by omega) (by omega)]; omega
      have c1 : 0 ≤ ((1026 * k : Nat) : Int) ∧ ((1026 * k : Nat) : Int) < 3078 := by omega
      refine ⟨I 39 0 9, tfI I (1 + k) 0, J, kpI (tfI I (1 + k) 0) k, J, fun d Q hQ => ?_, fun d Q hQ => ?_, ?_⟩
      · have r9 : tfI I (1 + k) 0 20 0 9 = I 39 0 9 := by
          rw [← n7]
          unfold tfI
          rw [if_neg (by omega)]
        simp only [b_C_keep_0, b_C_keep_4, b_C_keep_7, b_C_keep_9, b_C_keep_16, b_C_keep_19, b_C_keep_22, b_C_keep_28, b_C_keep_35, s_C_isPlaceKept, s_F_isEmpty, s_F_takeFrom (show 0 ≠ 1 + k by omega), he2, r9, k0, k2, k3, i10, ap_s, ap_n, and_self, and_true, true_and, if_true, if_false, not_true_eq_false, not_false_eq_true, Int.toNat_natCast]
        exact hQ
      · have r39 : ∀ p, tfI I (1 + k) 0 39 0 p = I 39 0 p := fun p => by
          unfold tfI
          rw [if_neg (by omega)]
        simp only [b_D_keep_0, b_D_keep_6, b_D_keep_9, b_D_keep_11, b_D_keep_18, b_D_keep_21, b_D_keep_34, s_D_in, r39, he, k0, k2, k3, e1, c1, i10, ap_s, ap_n, and_self, and_true, true_and, if_true, if_false, not_true_eq_false, not_false_eq_true, Int.toNat_natCast]
        rw [b_D_keep_44, e2]
        refine (s_D_bring (t0 := 46) (i0 := 0) (n0 := 25) (t2 := 50) (i2 := 0) (n2 := 3078) (a := 0) (b := 1026 * k + 1) (n := 25) (fun _ _ => rfl) (fun _ _ => rfl) (by decide) (by decide) (by omega) (by decide) (by decide)).mpr ?_
        rw [ap_n, b_D_keep_61, e2, e3]
        refine (s_D_bring (t0 := 48) (i0 := 0) (n0 := 1000) (t2 := 50) (i2 := 0) (n2 := 3078) (a := 0) (b := 1026 * k + 26) (n := 1000) (fun _ _ => rfl) (fun _ _ => rfl) (by decide) (by decide) (by omega) (by decide) (by decide)).mpr ?_
        rw [ap_n, b_D_keep_82]
        have r39' : kpI (tfI I (1 + k) 0) k 39 0 9 = I 39 0 9 := r39 9
        unfold kpI at hQ r39'
        rw [r39] at hQ r39'
        rw [show upI (tfI I (1 + k) 0) 51 0 k 1 39 0 9 = tfI I (1 + k) 0 39 0 9 from rfl, r39, r39']
        exact hQ
      · obtain ⟨h1, h2, h3, h4, h5, h6⟩ := h
        have r50 : ∀ p, kpI (tfI I (1 + k) 0) k 50 0 p = if 1026 * k + 26 ≤ p ∧ p < 1026 * k + 26 + 1000 then I 48 0 (p - (1026 * k + 26)) else if 1026 * k + 1 ≤ p ∧ p < 1026 * k + 1 + 25 then I 46 0 (p - (1026 * k + 1)) else if p = 1026 * k then I 39 0 9 else I 50 0 p := fun p => by
          simp [kpI, brI, rd_up, tfI]
        have rc : ∀ t i p, t ≤ 27 → ¬ i = 1 + k → kpI (tfI I (1 + k) 0) k t i p = I t i p := fun t i p ht hi => by
          simp only [kpI, brI, rd_up, tfI]
          repeat rw [if_neg (by omega)]
        have rk : ∀ t p, ((t = 20 ∧ 7 ≤ p ∧ p ≤ 9) ∨ (21 ≤ t ∧ t ≤ 23 ∧ p < 6) ∨ (24 ≤ t ∧ t ≤ 27 ∧ p < 40)) → kpI (tfI I (1 + k) 0) k t (1 + k) p = I t 0 p := fun t p hp => by
          simp only [kpI, brI, rd_up, tfI]
          rw [if_neg (by omega), if_neg (by omega), if_neg (by omega), if_neg (by omega), if_pos ⟨trivial, hp⟩]
        have rd' : ∀ t i p, 28 ≤ t → t ≠ 50 → t ≠ 51 → kpI (tfI I (1 + k) 0) k t i p = I t i p := fun t i p ht ht2 ht3 => by
          simp only [kpI, brI, rd_up, tfI]
          repeat rw [if_neg (by omega)]
        have rf : ∀ t, 28 ≤ t → t ≠ 50 → t ≠ 51 → kpI (tfI I (1 + k) 0) k t = I t := fun t a b c => by
          funext i p
          exact rd' t i p a b c
        have rf0 : ∀ t i, t ≤ 27 → ¬ i = 1 + k → kpI (tfI I (1 + k) 0) k t i = I t i := fun t i a b => by
          funext p
          exact rc t i p a b
        have r51 : ∀ p, kpI (tfI I (1 + k) 0) k 51 0 p = if p = k then 1 else I 51 0 p := fun p => by
          simp [kpI, brI, rd_up, tfI]
        refine ⟨?_, ?_, ?_, ?_, fun q hq => ?_, ?_⟩
        · rw [rf 28 (by omega) (by omega) (by omega), rf 29 (by omega) (by omega) (by omega), rf 40 (by omega) (by omega) (by omega), rf 41 (by omega) (by omega) (by omega)]
          exact h1
        · rw [rf 28 (by omega) (by omega) (by omega), rf 29 (by omega) (by omega) (by omega), rf 42 (by omega) (by omega) (by omega), rf 43 (by omega) (by omega) (by omega)]
          exact h2
        · rw [rf 39 (by omega) (by omega) (by omega), rf 45 (by omega) (by omega) (by omega), rf0 20 0 (by omega) (by omega), rf0 21 0 (by omega) (by omega)]
          exact h3
        · rw [rf 39 (by omega) (by omega) (by omega), rf 46 (by omega) (by omega) (by omega), rf 48 (by omega) (by omega) (by omega), rf0 20 0 (by omega) (by omega), rf0 22 0 (by omega) (by omega), rf0 23 0 (by omega) (by omega), rf0 24 0 (by omega) (by omega), rf0 25 0 (by omega) (by omega), rf0 26 0 (by omega) (by omega), rf0 27 0 (by omega) (by omega)]
          exact h4
        · rw [rf 39 (by omega) (by omega) (by omega), rf 45 (by omega) (by omega) (by omega), r51]
          by_cases e : q = k
          · subst e
            right
            rw [if_pos rfl, rk 20 7 (by omega), rk 20 9 (by omega), rk 20 8 (by omega), r50 (1026 * q), if_neg (by omega), if_neg (by omega), if_pos rfl]
            refine ⟨rfl, by omega, h3.1, fun i hi => ?_, h4.1, ?_⟩
            · rw [rk 21 i (by omega)]
              exact (h3.2.2.2 i hi).1
            · refine iF_congr n3 h4.2 (fun j hj => ⟨rk 22 j (by omega), rk 23 j (by omega)⟩) (fun p hp => ?_) (fun c hc => ⟨rk 24 c (by omega), rk 25 c (by omega), rk 26 c (by omega), rk 27 c (by omega), fun p hp => ?_⟩)
              · rw [r50, if_neg (by omega), if_pos (by omega)]
                exact congrArg (I 46 0) (by omega)
              · unfold bo0
                rw [r50, if_pos (by omega)]
                exact congrArg (I 48 0) (by omega)
          · rw [if_neg e, rf0 20 (1 + q) (by omega) (by omega), rf0 21 (1 + q) (by omega) (by omega), rf0 22 (1 + q) (by omega) (by omega), rf0 23 (1 + q) (by omega) (by omega), rf0 24 (1 + q) (by omega) (by omega), rf0 25 (1 + q) (by omega) (by omega), rf0 26 (1 + q) (by omega) (by omega), rf0 27 (1 + q) (by omega) (by omega)]
            have ne : ∀ p, p < 1026 → kpI (tfI I (1 + k) 0) k 50 0 (1026 * q + p) = I 50 0 (1026 * q + p) := fun p hp => by
              rw [r50, if_neg (by omega), if_neg (by omega), if_neg (by omega)]
            have ne0 : kpI (tfI I (1 + k) 0) k 50 0 (1026 * q) = I 50 0 (1026 * q) := ne 0 (by omega)
            rw [ne0]
            rcases h5 q hq with z | ⟨z1, z2, z3, z4, z5, z6⟩
            · exact Or.inl z
            · refine Or.inr ⟨z1, z2, z3, z4, z5, iF_congr n3 z6 (fun j hj => ⟨rfl, rfl⟩) (fun p hp => ?_) (fun c hc => ⟨rfl, rfl, rfl, rfl, fun p hp => ?_⟩)⟩
              · rw [show 1026 * q + 1 + p = 1026 * q + (1 + p) by omega]
                exact ne _ (by omega)
              · unfold bo0
                rw [show 1026 * q + 26 + 25 * c + p = 1026 * q + (26 + 25 * c + p) by omega]
                exact ne _ (by omega)
        · rw [rf 39 (by omega) (by omega) (by omega), rf 56 (by omega) (by omega) (by omega), rf0 0 0 (by omega) (by omega), rf0 5 0 (by omega) (by omega)]
          exact h6
  · refine op_no h (-1) (fun d Q hQ => ?_) (fun d Q hQ => ?_)
    · simp only [b_C_keep_0, b_C_keep_4, b_C_keep_7, b_C_keep_9, b_C_keep_16, b_C_keep_19, b_C_keep_22, b_C_keep_28, b_C_keep_35, s_C_isPlaceKept, hb, i10, ap_s, ap_n, and_self, and_true, true_and, if_true, if_false, not_true_eq_false, not_false_eq_true, Int.toNat_natCast]
      exact hQ
    · simp only [b_D_keep_0, b_D_keep_6, b_D_keep_9, s_D_in, hb, i10, ap_s, ap_n, and_self, and_true, true_and, if_true, if_false, not_true_eq_false, not_false_eq_true, Int.toNat_natCast]
      exact hQ
theorem op_on (h : Inv I J) (k : Int) : OpI m_C_on m_D_on [some (vr 0 0), some (vi k)] [some (vr 39 0), some (vi k), none] sc I J := by
  obtain ⟨n1, n2, n3, n4, n5, n6, n7, n8, n9⟩ := inv_num h
  by_cases hb : 0 ≤ k ∧ k ≤ 2
  · obtain ⟨k0, k2⟩ := hb
    obtain ⟨k, rfl⟩ := Int.eq_ofNat_of_zero_le k0
    have k3 : (k : Int) < 3 := by omega
    rcases h.2.2.2.2.1 k (by omega) with ⟨z1, z2⟩ | ⟨z1, z2, z3, z4, z5, z6⟩
    · refine op_fd h (f := 1) (by decide) (fun d Q hQ => ?_) (fun d Q hQ => ?_)
      · simp only [b_C_on_0, b_C_on_4, b_C_on_7, b_C_on_9, b_C_on_15, b_C_on_18, b_C_on_21, b_C_on_26, b_C_on_27, b_C_on_37, b_C_on_40, s_C_isPlaceKept, s_F_isEmpty, s_C_fd1, z2, k0, k2, k3, i10, ap_s, ap_n, and_self, and_true, true_and, if_true, if_false, not_true_eq_false, not_false_eq_true, Int.toNat_natCast]
        exact hQ
      · simp only [b_D_on_0, b_D_on_6, b_D_on_9, b_D_on_11, b_D_on_17, b_D_on_20, b_D_on_25, s_D_in, s_D_fd1, show fdC I 1 51 = I 51 from rfl, z1, k0, k2, k3, i10, ap_s, ap_n, and_self, and_true, true_and, if_true, if_false, not_true_eq_false, not_false_eq_true, Int.toNat_natCast]
        exact hQ
    · have z7 : ¬ I 20 (1 + k) 7 = 0 := by omega
      have e1 : w32 (1026 * (k : Int)) = ((1026 * k : Nat) : Int) := by rw [w32_eq (by omega) (by omega)]; omega
      have e2 : w32 (((1026 * k : Nat) : Int) + 1) = ((1026 * k + 1 : Nat) : Int) := by rw [w32_eq (by omega) (by omega)]; omega
      have e3 : w32 (((1026 * k + 1 : Nat) : Int) + 25) = ((1026 * k + 26 : Nat) : Int) := by rw [w32_eq (by omega) (by omega)]; omega
      have c1 : 0 ≤ ((1026 * k : Nat) : Int) ∧ ((1026 * k : Nat) : Int) < 3078 := by omega
      have r9 : tfI I 0 (1 + k) 20 0 9 = I 50 0 (1026 * k) := by
        rw [← z5]
        unfold tfI
        rw [if_pos (by omega)]
      refine ⟨I 50 0 (1026 * k), tfI I 0 (1 + k), J, onI (tfI I 0 (1 + k)) k, J, fun d Q hQ => ?_, fun d Q hQ => ?_, ?_⟩
      · simp only [b_C_on_0, b_C_on_4, b_C_on_7, b_C_on_9, b_C_on_15, b_C_on_18, b_C_on_21, b_C_on_26, b_C_on_27, b_C_on_37, b_C_on_40, s_C_isPlaceKept, s_F_isEmpty, s_F_takeFrom (show 1 + k ≠ 0 by omega), z7, r9, k0, k2, k3, i10, ap_s, ap_n, and_self, and_true, true_and, if_true, if_false, not_true_eq_false, not_false_eq_true, Int.toNat_natCast]
        exact hQ
      · have r51 : tfI I 0 (1 + k) 51 0 k = 1 := by
          rw [← z1]
          unfold tfI
          rw [if_neg (by omega)]
        have r50 : tfI I 0 (1 + k) 50 0 (1026 * k) = I 50 0 (1026 * k) := by
          unfold tfI
          rw [if_neg (by omega)]
        simp only [b_D_on_0, b_D_on_6, b_D_on_9, b_D_on_11, b_D_on_17, b_D_on_20, b_D_on_25, b_D_on_26, b_D_on_39, s_D_in, r51, k0, k2, k3, e1, c1, i10, ap_s, ap_n, and_self, and_true, true_and, if_true, if_false, not_true_eq_false, not_false_eq_true, Int.toNat_natCast]
        rw [b_D_on_42, e2]
        refine (s_D_bring (t0 := 50) (i0 := 0) (n0 := 3078) (t2 := 46) (i2 := 0) (n2 := 25) (a := 1026 * k + 1) (b := 0) (n := 25) (fun _ _ => rfl) (fun _ _ => rfl) (by decide) (by omega) (by decide) (by decide) (by decide)).mpr ?_
        rw [ap_n, b_D_on_59, e2, e3]
        refine (s_D_bring (t0 := 50) (i0 := 0) (n0 := 3078) (t2 := 48) (i2 := 0) (n2 := 1000) (a := 1026 * k + 26) (b := 0) (n := 1000) (fun _ _ => rfl) (fun _ _ => rfl) (by decide) (by omega) (by decide) (by decide) (by decide)).mpr ?_
        rw [ap_n, b_D_on_80]
        have r39' : onI (tfI I 0 (1 + k)) k 39 0 9 = I 50 0 (1026 * k) := r50
        unfold onI at hQ r39'
        rw [r39']
        exact hQ
      · obtain ⟨h1, h2, h3, h4, h5, h6⟩ := h
        have r46 : ∀ p, p < 25 → onI (tfI I 0 (1 + k)) k 46 0 p = I 50 0 (1026 * k + 1 + p) := fun p hp => by
          simp [onI, brI, rd_up, tfI, hp]
        have r48 : ∀ p, p < 1000 → onI (tfI I 0 (1 + k)) k 48 0 p = I 50 0 (1026 * k + 26 + p) := fun p hp => by
          simp [onI, brI, rd_up, tfI, hp]
        have r399 : onI (tfI I 0 (1 + k)) k 39 0 9 = I 50 0 (1026 * k) := by
          simp [onI, brI, rd_up, tfI]
        have rc : ∀ t i p, t ≤ 27 → ¬ i = 0 → onI (tfI I 0 (1 + k)) k t i p = I t i p := fun t i p ht hi => by
          simp only [onI, brI, rd_up, tfI]
          repeat rw [if_neg (by omega)]
        have rk : ∀ t p, ((t = 20 ∧ 7 ≤ p ∧ p ≤ 9) ∨ (21 ≤ t ∧ t ≤ 23 ∧ p < 6) ∨ (24 ≤ t ∧ t ≤ 27 ∧ p < 40)) → onI (tfI I 0 (1 + k)) k t 0 p = I t (1 + k) p := fun t p hp => by
          simp only [onI, brI, rd_up, tfI]
          rw [if_neg (by omega), if_neg (by omega), if_neg (by omega), if_pos ⟨trivial, hp⟩]
        have rd' : ∀ t i p, (28 ≤ t ∨ t < 20) → t ≠ 46 → t ≠ 48 → (t = 39 → p ≠ 9) → onI (tfI I 0 (1 + k)) k t i p = I t i p := fun t i p ht ht2 ht3 ht4 => by
          simp only [onI, brI, rd_up, tfI]
          repeat rw [if_neg (by omega)]
        have rf : ∀ t, (28 ≤ t ∨ t < 20) → t ≠ 46 → t ≠ 48 → t ≠ 39 → onI (tfI I 0 (1 + k)) k t = I t := fun t a b c e => by
          funext i p
          exact rd' t i p a b c (by omega)
        have rf0 : ∀ t i, t ≤ 27 → ¬ i = 0 → onI (tfI I 0 (1 + k)) k t i = I t i := fun t i a b => by
          funext p
          exact rc t i p a b
        have r39 : ∀ p, p ≠ 9 → onI (tfI I 0 (1 + k)) k 39 0 p = I 39 0 p := fun p hp => rd' 39 0 p (by omega) (by omega) (by omega) (by omega)
        refine ⟨?_, ?_, ?_, ?_, fun q hq => ?_, ?_⟩
        · rw [rf 28 (by omega) (by omega) (by omega) (by omega), rf 29 (by omega) (by omega) (by omega) (by omega), rf 40 (by omega) (by omega) (by omega) (by omega), rf 41 (by omega) (by omega) (by omega) (by omega)]
          exact h1
        · rw [rf 28 (by omega) (by omega) (by omega) (by omega), rf 29 (by omega) (by omega) (by omega) (by omega), rf 42 (by omega) (by omega) (by omega) (by omega), rf 43 (by omega) (by omega) (by omega) (by omega)]
          exact h2
        · rw [r39 4 (by omega), rf 45 (by omega) (by omega) (by omega) (by omega), rk 20 7 (by omega)]
          refine ⟨z3, h3.2.1, h3.2.2.1, fun i hi => ?_⟩
          rw [rk 21 i (by omega)]
          exact ⟨z4 i hi, (h3.2.2.2 i hi).2⟩
        · rw [r39 4 (by omega), r399, rk 20 9 (by omega), rk 20 8 (by omega)]
          refine ⟨z5, iF_congr n3 z6 (fun j hj => ⟨rk 22 j (by omega), rk 23 j (by omega)⟩) (fun p hp => r46 p hp) (fun c hc => ⟨rk 24 c (by omega), rk 25 c (by omega), rk 26 c (by omega), rk 27 c (by omega), fun p hp => ?_⟩)⟩
          unfold bo0
          rw [r48 _ (by omega)]
          exact congrArg (I 50 0) (by omega)
        · have := h5 q hq
          rw [r39 4 (by omega), rf 45 (by omega) (by omega) (by omega) (by omega), rf 50 (by omega) (by omega) (by omega) (by omega), rf 51 (by omega) (by omega) (by omega) (by omega), rf0 20 (1 + q) (by omega) (by omega), rf0 21 (1 + q) (by omega) (by omega), rf0 22 (1 + q) (by omega) (by omega), rf0 23 (1 + q) (by omega) (by omega), rf0 24 (1 + q) (by omega) (by omega), rf0 25 (1 + q) (by omega) (by omega), rf0 26 (1 + q) (by omega) (by omega), rf0 27 (1 + q) (by omega) (by omega)]
          exact this
        · rw [r39 15 (by omega), r39 12 (by omega), rf 56 (by omega) (by omega) (by omega) (by omega), rf 0 (by omega) (by omega) (by omega) (by omega), rf 5 (by omega) (by omega) (by omega) (by omega)]
          exact h6
  · refine op_no h (-1) (fun d Q hQ => ?_) (fun d Q hQ => ?_)
    · simp only [b_C_on_0, b_C_on_4, b_C_on_7, b_C_on_9, b_C_on_15, b_C_on_18, b_C_on_21, b_C_on_26, b_C_on_27, b_C_on_37, b_C_on_40, s_C_isPlaceKept, hb, i10, ap_s, ap_n, and_self, and_true, true_and, if_true, if_false, not_true_eq_false, not_false_eq_true, Int.toNat_natCast]
      exact hQ
    · simp only [b_D_on_0, b_D_on_6, b_D_on_9, s_D_in, hb, i10, ap_s, ap_n, and_self, and_true, true_and, if_true, if_false, not_true_eq_false, not_false_eq_true, Int.toNat_natCast]
      exact hQ
end KE
