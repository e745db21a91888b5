/-! SETS, SURE -/
def cf (W : Nat → Int) (v : Int) : Nat → Int
  | 0 => 0
  | j + 1 => cf W v j + (if W j = v then 1 else 0)
def fi (W : Nat → Int) (v : Int) : Nat → Int
  | 0 => -9
  | j + 1 => if W j = v then (if cf W v j = 0 then (j : Int) else fi W v j) else fi W v j
def dF (W : Nat → Int) (v : Int) (N : Nat) : Nat → Int
  | 0 => -9
  | m + 1 => if W (N - (m + 1)) = v then ((N - (m + 1) : Nat) : Int) else dF W v N m
theorem cf_in {W : Nat → Int} {v : Int} : ∀ j : Nat, 0 ≤ cf W v j ∧ cf W v j ≤ j
  | 0 => ⟨Int.le_refl _, Int.le_refl _⟩
  | j + 1 => by
    have := cf_in (W := W) (v := v) j
    unfold cf
    split <;> omega
theorem fi_0 {W : Nat → Int} {v : Int} : ∀ j : Nat, cf W v j = 0 → fi W v j = -9
  | 0, _ => rfl
  | j + 1, h => by
    have := cf_in (W := W) (v := v) j
    unfold cf at h
    unfold fi
    by_cases z : W j = v
    · rw [if_pos z] at h; omega
    · rw [if_neg z] at h ⊢
      exact fi_0 j (by omega)
theorem fi_dF {W : Nat → Int} {v : Int} {N : Nat} : ∀ m : Nat, m ≤ N → (if cf W v (N - m) = 0 then dF W v N m else fi W v (N - m)) = fi W v N
  | 0, _ => by
    rw [show N - 0 = N from rfl]
    by_cases z : cf W v N = 0
    · rw [if_pos z, fi_0 N z]; rfl
    · rw [if_neg z]
  | m + 1, h => by
    have ih := fi_dF (W := W) (v := v) (N := N) m (by omega)
    obtain ⟨j, hj⟩ : ∃ j, N - (m + 1) = j := ⟨_, rfl⟩
    rw [show N - m = j + 1 by omega] at ih
    rw [dF, hj]
    have cj := cf_in (W := W) (v := v) j
    have c1 : cf W v (j + 1) = cf W v j + (if W j = v then 1 else 0) := rfl
    have f1 : fi W v (j + 1) = if W j = v then (if cf W v j = 0 then (j : Int) else fi W v j) else fi W v j := rfl
    rw [c1, f1] at ih
    by_cases z : W j = v
    · rw [if_pos z, if_neg (by omega), if_pos z] at ih
      rw [if_pos z]
      exact ih
    · rw [if_neg z, Int.add_zero, if_neg z] at ih
      rw [if_neg z]
      exact ih
theorem fi_end {W : Nat → Int} {v : Int} {N : Nat} : dF W v N N = fi W v N := by
  have := fi_dF (W := W) (v := v) (N := N) N (Nat.le_refl _)
  rw [Nat.sub_self] at this
  rw [← this]
  exact (if_pos rfl).symm
theorem cf_eq {W V : Nat → Int} {v : Int} : ∀ {n : Nat}, (∀ j, j < n → W j = V j) → cf W v n = cf V v n ∧ fi W v n = fi V v n
  | 0, _ => ⟨rfl, rfl⟩
  | n + 1, h => by
    have := cf_eq (v := v) (n := n) (fun j hj => h j (by omega))
    unfold cf fi
    rw [this.1, this.2, h n (by omega)]
    exact ⟨rfl, rfl⟩
def sE (W : Nat → Int) (v a : Int) : Nat → Int
  | 0 => a
  | j + 1 => if W j = v then i_and (sE W v a j) j else sE W v a j
def sA (W : Nat → Int) (v : Int) : Nat → Int
  | 0 => 0
  | j + 1 => if W j = v then i_or (sA W v j) j else sA W v j
def sF (W : Nat → Int) (v : Int) : Nat → Int
  | 0 => 0
  | j + 1 => if W j = v then 1 else sF W v j
theorem sE_eq {W V : Nat → Int} {v a : Int} : ∀ {n : Nat}, (∀ j, j < n → W j = V j) → sE W v a n = sE V v a n ∧ sA W v n = sA V v n ∧ sF W v n = sF V v n
  | 0, _ => ⟨rfl, rfl, rfl⟩
  | n + 1, h => by
    have := sE_eq (v := v) (a := a) (n := n) (fun j hj => h j (by omega))
    unfold sE sA sF
    rw [this.1, this.2.1, this.2.2, h n (by omega)]
    exact ⟨rfl, rfl, rfl⟩
section SE
variable {d : Nat} {Q : Option AV → AMem → Prop} {sc : SC} {I J : TI}
theorem l_C_sets {n : Nat} {v : Int} (hn : n ≤ 6) (hs : I 20 0 7 = n) (hL : ∀ j, j < n → 0 ≤ I 22 0 j ∧ I 22 0 j ≤ 999) : ∀ (m j : Nat), j + m = 2 ^ n → (X (d + 3) m_C_sets 34 [some (vr 0 0), some (vi v), some (vi (fi (fun q => wSF (I 21 0) (I 22 0) q n) v j)), some (vi (cf (fun q => wSF (I 21 0) (I 22 0) q n) v j)), some (vi (j : Int))] [] (MM sc I J) Q ↔ X (d + 3) m_C_sets 79 [some (vr 0 0), some (vi v), some (vi (fi (fun q => wSF (I 21 0) (I 22 0) q n) v (2 ^ n))), some (vi (cf (fun q => wSF (I 21 0) (I 22 0) q n) v (2 ^ n))), some (vi ((2 ^ n : Nat) : Int))] [] (MM sc I J) Q)
  | 0, j, e => by
    have e1 : j = 2 ^ n := by omega
    subst e1
    rw [b_C_sets_34, b_F_setCount_0, hs, shl_n hn, ap_s, b_C_sets_43, if_pos (Int.le_refl _)]
  | m + 1, j, e => by
    have hp := pow_in hn
    have hc := cf_in (W := fun q => wSF (I 21 0) (I 22 0) q n) (v := v) j
    rw [b_C_sets_34, b_F_setCount_0, hs, shl_n hn, ap_s, b_C_sets_43, if_neg (by omega), b_C_sets_46, s_F_wos (by omega) hn hs hL, ap_s, b_C_sets_55, b_C_sets_59, b_C_sets_63, b_C_sets_68, b_C_sets_69, b_C_sets_69, b_C_sets_73, b_C_sets_73, b_C_sets_73, wsuc (by omega), w32_eq (x := cf (fun q => wSF (I 21 0) (I 22 0) q n) v j + 1) (by omega) (by omega)]
    rw [← l_C_sets hn hs hL m (j + 1) (by omega)]
    rw [fi, cf]
    by_cases z : wSF (I 21 0) (I 22 0) (j : Int) n = v
    · rw [if_pos z, if_pos z, if_pos z]
      by_cases y : cf (fun q => wSF (I 21 0) (I 22 0) q n) v j = 0
      · rw [if_pos y, if_pos y]
      · rw [if_neg y, if_neg y]
    · rw [if_neg z, if_neg z, if_neg z, Int.add_zero]
theorem l_D_sets {n : Nat} {v : Int} (hn : n ≤ 6) (hs : I 39 0 4 = n) (hd : ∀ j, j < n → dg3 (I 46 0) j) : ∀ (j m : Nat), j + m = 2 ^ n → (X (d + 3) m_D_sets 38 [some (vr 39 0), some (vi v), some (vi (cf (fun q => wSF (I 45 0) (lf3 (I 46 0)) q n) v (2 ^ n) - cf (fun q => wSF (I 45 0) (lf3 (I 46 0)) q n) v j)), some (vi (dF (fun q => wSF (I 45 0) (lf3 (I 46 0)) q n) v (2 ^ n) m)), some (vi ((j : Int) - 1))] [] (MM sc I J) Q ↔ X (d + 3) m_D_sets 65 [some (vr 39 0), some (vi v), some (vi (cf (fun q => wSF (I 45 0) (lf3 (I 46 0)) q n) v (2 ^ n))), some (vi (fi (fun q => wSF (I 45 0) (lf3 (I 46 0)) q n) v (2 ^ n))), some (vi (-1))] [] (MM sc I J) Q)
  | 0, m, e => by
    have e1 : m = 2 ^ n := by omega
    subst e1
    rw [b_D_sets_38, if_pos (by omega), fi_end, show cf (fun q => wSF (I 45 0) (lf3 (I 46 0)) q n) v 0 = 0 from rfl, Int.sub_zero]
    exact Iff.rfl
  | j + 1, m, e => by
    have hp := pow_in hn
    have hc := cf_in (W := fun q => wSF (I 45 0) (lf3 (I 46 0)) q n) (v := v) (2 ^ n)
    have hc2 := cf_in (W := fun q => wSF (I 45 0) (lf3 (I 46 0)) q n) (v := v) (j + 1)
    have e1 : ((j + 1 : Nat) : Int) - 1 = (j : Int) := by omega
    have e2 : w32 ((j : Int) + (-1)) = (j : Int) - 1 := by rw [w32_eq (by omega) (by omega)]; omega
    have e3 : 2 ^ n - (m + 1) = j := by omega
    rw [e1, b_D_sets_38, if_neg (by omega), b_D_sets_43, s_D_wos (by omega) hn hs hd, ap_s, b_D_sets_49, b_D_sets_53, b_D_sets_59, b_D_sets_59, e2, w32_eq (by omega) (by omega)]
    have ih := l_D_sets (v := v) hn hs hd j (m + 1) (by omega)
    rw [dF, e3] at ih
    rw [cf]
    by_cases z : wSF (I 45 0) (lf3 (I 46 0)) (j : Int) n = v
    · rw [if_pos z] at ih
      rw [if_pos z, if_pos z, ← ih]
      rw [show cf (fun q => wSF (I 45 0) (lf3 (I 46 0)) q n) v (2 ^ n) - (cf (fun q => wSF (I 45 0) (lf3 (I 46 0)) q n) v j + 1) + 1 = cf (fun q => wSF (I 45 0) (lf3 (I 46 0)) q n) v (2 ^ n) - cf (fun q => wSF (I 45 0) (lf3 (I 46 0)) q n) v j by omega]
    · rw [if_neg z] at ih
      rw [if_neg z, if_neg z, ← ih, Int.add_zero]
theorem inv_tell (h : Inv I J) (f A B : Int) : Inv (upI (upI I 0 0 6 f) 39 0 12 f) (upI (upI (upI (upI J 0 0 7 A) 0 0 8 B) 39 0 13 A) 39 0 14 B) := by
  obtain ⟨h1, h2, h3, h4, h5, a1, a2, a3, a4, a5⟩ := h
  exact ⟨h1, h2, h3, h4, h5, a1, rfl, a3, rfl, rfl⟩
theorem op_sets (h : Inv I J) (v : Int) : OpW m_C_sets m_D_sets [some (vr 0 0), some (vi v), none, none, none] [some (vr 39 0), some (vi v), none, none, none] sc I J := by
  obtain ⟨n1, n2, n3, n4, n5, n6, n7, n8, n9⟩ := inv_num h
  by_cases hb : 0 ≤ v ∧ v ≤ 180
  · obtain ⟨v0, v1⟩ := hb
    have v2 : ¬ v < 0 := by omega
    by_cases he : I 39 0 4 = 0
    · have he2 : I 20 0 7 = 0 := by omega
      refine opW_no h (-4) (fun d Q hQ => ?_) (fun d Q hQ => ?_)
      · simp only [b_C_sets_0, b_C_sets_4, b_C_sets_11, b_C_sets_13, b_C_sets_20, b_C_sets_23, b_C_sets_26, s_F_isEmpty, he2, v1, v2, i10, ap_s, ap_n, and_self, and_true, true_and, if_true, if_false, not_true_eq_false, not_false_eq_true, Int.toNat_natCast]
        exact hQ
      · simp only [b_D_sets_0, b_D_sets_8, b_D_sets_11, b_D_sets_13, b_D_sets_20, b_D_sets_23, s_D_in, he, v0, v1, i10, ap_s, ap_n, and_self, and_true, true_and, if_true, if_false, not_true_eq_false, not_false_eq_true, Int.toNat_natCast]
        exact hQ
    · have he2 : ¬ I 20 0 7 = 0 := by omega
      obtain ⟨n, hn⟩ := Int.eq_ofNat_of_zero_le n2
      have hn6 : n ≤ 6 := by omega
      have hp := pow_in hn6
      have hs : I 20 0 7 = n := by omega
      have ps : ∀ j, j < n → _ := fun j hj => inv_pas h (i := j) (by omega)
      have hd : ∀ j, j < n → dg3 (I 46 0) j := fun j hj => (ps j hj).2.2.2.2.2.1
      have hL : ∀ j, j < n → 0 ≤ I 22 0 j ∧ I 22 0 j ≤ 999 := fun j hj => by rw [(ps j hj).2.2.2.1]; exact lf3_in (hd j hj)
      have eq := cf_eq (v := v) (n := 2 ^ n) (W := fun q => wSF (I 21 0) (I 22 0) q n) (V := fun q => wSF (I 45 0) (lf3 (I 46 0)) q n) (fun q _ => wSF_eq (fun j hj => ⟨(ps j hj).2.1, (ps j hj).2.2.2.1⟩))
      have cin := cf_in (W := fun q => wSF (I 45 0) (lf3 (I 46 0)) q n) (v := v) (2 ^ n)
      obtain ⟨u, hu⟩ := Int.eq_ofNat_of_zero_le cin.1
      have esh : w32 (i_shl 1 (n : Int) - 1) = ((2 ^ n : Nat) : Int) - 1 := by rw [shl_n hn6, w32_eq (by omega) (by omega)]
      generalize hf : fi (fun q => wSF (I 45 0) (lf3 (I 46 0)) q n) v (2 ^ n) = f at *
      refine ⟨1, fun a b => a = upI I 0 0 6 f ∧ b = upI (upI J 0 0 7 (w64 ((u : Int).tdiv ((Nat.gcd u 1 : Nat) : Int)))) 0 0 8 (w64 (((1 : Nat) : Int).tdiv ((Nat.gcd u 1 : Nat) : Int))), fun d Q hQ => ?_, fun a b hab d Q hQ => ?_⟩
      · simp only [b_C_sets_0, b_C_sets_4, b_C_sets_11, b_C_sets_13, b_C_sets_20, b_C_sets_23, b_C_sets_26, s_F_isEmpty, he2, v1, v2, i10, ap_s, ap_n, and_self, and_true, true_and, if_true, if_false, not_true_eq_false, not_false_eq_true, Int.toNat_natCast]
        refine (l_C_sets (v := v) hn6 hs hL (2 ^ n) 0 (Nat.zero_add _)).mpr ?_
        rw [eq.1, eq.2, hu, b_C_sets_79, b_C_sets_84]
        refine (s_C_tell (u := u) (w := 1) (Nat.le_refl 1) (by decide)).mpr ?_
        rw [ap_n, b_C_sets_91]
        exact hQ _ _ ⟨rfl, rfl⟩
      · obtain ⟨e1, e2⟩ := hab
        subst e1 e2
        simp only [b_D_sets_0, b_D_sets_8, b_D_sets_11, b_D_sets_13, b_D_sets_20, b_D_sets_23, s_D_in, show upI I 0 0 6 f 39 = I 39 from rfl, he, v0, v1, i10, ap_s, ap_n, and_self, and_true, true_and, if_true, if_false, not_true_eq_false, not_false_eq_true, Int.toNat_natCast]
        rw [hn, esh]
        have ld' := l_D_sets (d := d + 17) (Q := Q) (sc := sc) (I := upI I 0 0 6 f) (J := upI (upI J 0 0 7 (w64 ((u : Int).tdiv ((Nat.gcd u 1 : Nat) : Int)))) 0 0 8 (w64 (((1 : Nat) : Int).tdiv ((Nat.gcd u 1 : Nat) : Int)))) (v := v) hn6 hn hd (2 ^ n) 0 (Nat.add_zero _)
        rw [Int.sub_self] at ld'
        refine ld'.mpr ?_
        show X (d + 17 + 3) m_D_sets 65 [some (vr 39 0), some (vi v), some (vi (cf (fun q => wSF (I 45 0) (lf3 (I 46 0)) q n) v (2 ^ n))), some (vi (fi (fun q => wSF (I 45 0) (lf3 (I 46 0)) q n) v (2 ^ n))), some (vi (-1))] [] _ Q
        rw [hf, hu, b_D_sets_65]
        refine (s_D_tellsPart (u := u) (w := 1) (Nat.le_refl 1)).mpr ?_
        rw [ap_s, b_D_sets_72, s_D_tells, ap_s, b_D_sets_79]
        refine hQ _ _ ?_
        exact inv_tell h _ _ _
  · refine opW_no h (-1) (fun d Q hQ => ?_) (fun d Q hQ => ?_)
    · simp only [b_C_sets_0, b_C_sets_4, b_C_sets_11, i10, ap_s, ap_n, and_self, and_true, true_and, if_true, if_false, not_true_eq_false, not_false_eq_true, Int.toNat_natCast]
      (repeat' split) <;> first | exact hQ | (exfalso; omega)
    · simp only [b_D_sets_0, b_D_sets_8, b_D_sets_11, s_D_in, hb, i10, ap_s, ap_n, and_self, and_true, true_and, if_true, if_false, not_true_eq_false, not_false_eq_true, Int.toNat_natCast]
      exact hQ
theorem l_C_sure {n : Nat} {v a : Int} (hn : n ≤ 6) (hs : I 20 0 7 = n) (ha : a = ((2 ^ n : Nat) : Int) - 1) (hL : ∀ j, j < n → 0 ≤ I 22 0 j ∧ I 22 0 j ≤ 999) : ∀ (m j : Nat), j + m = 2 ^ n → (X (d + 3) m_C_sure 47 [some (vr 0 0), some (vi v), some (vi a), some (vi (sE (fun q => wSF (I 21 0) (I 22 0) q n) v a j)), some (vi (sA (fun q => wSF (I 21 0) (I 22 0) q n) v j)), some (vi (sF (fun q => wSF (I 21 0) (I 22 0) q n) v j)), some (vi (j : Int))] [] (MM sc I J) Q ↔ X (d + 3) m_C_sure 87 [some (vr 0 0), some (vi v), some (vi a), some (vi (sE (fun q => wSF (I 21 0) (I 22 0) q n) v a (2 ^ n))), some (vi (sA (fun q => wSF (I 21 0) (I 22 0) q n) v (2 ^ n))), some (vi (sF (fun q => wSF (I 21 0) (I 22 0) q n) v (2 ^ n))), some (vi ((2 ^ n : Nat) : Int))] [] (MM sc I J) Q)
  | 0, j, e => by
    have e1 : j = 2 ^ n := by omega
    subst e1
    rw [b_C_sure_47, if_pos (by omega)]
  | m + 1, j, e => by
    have hp := pow_in hn
    rw [b_C_sure_47, if_neg (by omega), b_C_sure_53, s_F_wos (by omega) hn hs hL, ap_s, b_C_sure_62, b_C_sure_66, b_C_sure_81, b_C_sure_81, wsuc (by omega)]
    rw [← l_C_sure hn hs ha hL m (j + 1) (by omega)]
    rw [sE, sA, sF]
    by_cases z : wSF (I 21 0) (I 22 0) (j : Int) n = v
    · rw [if_pos z, if_pos z, if_pos z, if_pos z]
    · rw [if_neg z, if_neg z, if_neg z, if_neg z]
theorem l_D_sure {n : Nat} {v a : Int} (hn : n ≤ 6) (hs : I 39 0 4 = n) (ha : a = ((2 ^ n : Nat) : Int) - 1) (hd : ∀ j, j < n → dg3 (I 46 0) j) : ∀ (m j : Nat), j + m = 2 ^ n → (X (d + 3) m_D_sure 43 [some (vr 39 0), some (vi v), some (vi a), some (vi (sE (fun q => wSF (I 45 0) (lf3 (I 46 0)) q n) v a j)), some (vi (sA (fun q => wSF (I 45 0) (lf3 (I 46 0)) q n) v j)), some (vi (sF (fun q => wSF (I 45 0) (lf3 (I 46 0)) q n) v j)), some (vi (j : Int))] [] (MM sc I J) Q ↔ X (d + 3) m_D_sure 80 [some (vr 39 0), some (vi v), some (vi a), some (vi (sE (fun q => wSF (I 45 0) (lf3 (I 46 0)) q n) v a (2 ^ n))), some (vi (sA (fun q => wSF (I 45 0) (lf3 (I 46 0)) q n) v (2 ^ n))), some (vi (sF (fun q => wSF (I 45 0) (lf3 (I 46 0)) q n) v (2 ^ n))), some (vi ((2 ^ n : Nat) : Int))] [] (MM sc I J) Q)
  | 0, j, e => by
    have e1 : j = 2 ^ n := by omega
    subst e1
    rw [b_D_sure_43, if_pos (by omega)]
  | m + 1, j, e => by
    have hp := pow_in hn
    rw [b_D_sure_43, if_neg (by omega), b_D_sure_49, s_D_wos (by omega) hn hs hd, ap_s, b_D_sure_55, b_D_sure_59, b_D_sure_74, b_D_sure_74, wsuc (by omega)]
    rw [← l_D_sure hn hs ha hd m (j + 1) (by omega)]
    rw [sE, sA, sF]
    by_cases z : wSF (I 45 0) (lf3 (I 46 0)) (j : Int) n = v
    · rw [if_pos z, if_pos z, if_pos z, if_pos z]
    · rw [if_neg z, if_neg z, if_neg z, if_neg z]
theorem op_sure (h : Inv I J) (v : Int) : OpW m_C_sure m_D_sure [some (vr 0 0), some (vi v), none, none, none, none, none] [some (vr 39 0), some (vi v), none, none, none, none, none] sc I J := by
  obtain ⟨n1, n2, n3, n4, n5, n6, n7, n8, n9⟩ := inv_num h
  by_cases hb : 0 ≤ v ∧ v ≤ 180
  · obtain ⟨v0, v1⟩ := hb
    have v2 : ¬ v < 0 := by omega
    by_cases he : I 39 0 4 = 0
    · have he2 : I 20 0 7 = 0 := by omega
      refine opW_no h (-4) (fun d Q hQ => ?_) (fun d Q hQ => ?_)
      · simp only [b_C_sure_0, b_C_sure_4, b_C_sure_11, b_C_sure_13, b_C_sure_20, b_C_sure_23, b_C_sure_26, b_C_sure_33, s_F_isEmpty, he2, v1, v2, i10, ap_s, ap_n, and_self, and_true, true_and, if_true, if_false, not_true_eq_false, not_false_eq_true, Int.toNat_natCast]
        exact hQ
      · simp only [b_D_sure_0, b_D_sure_8, b_D_sure_11, b_D_sure_13, b_D_sure_20, b_D_sure_23, s_D_in, he, v0, v1, i10, ap_s, ap_n, and_self, and_true, true_and, if_true, if_false, not_true_eq_false, not_false_eq_true, Int.toNat_natCast]
        exact hQ
    · have he2 : ¬ I 20 0 7 = 0 := by omega
      obtain ⟨n, hn⟩ := Int.eq_ofNat_of_zero_le n2
      have hn6 : n ≤ 6 := by omega
      have hs : I 20 0 7 = n := by omega
      have hp := pow_in hn6
      have nz : ¬ (n : Int) = 0 := by omega
      have ps : ∀ j, j < n → _ := fun j hj => inv_pas h (i := j) (by omega)
      have hd : ∀ j, j < n → dg3 (I 46 0) j := fun j hj => (ps j hj).2.2.2.2.2.1
      have hL : ∀ j, j < n → 0 ≤ I 22 0 j ∧ I 22 0 j ≤ 999 := fun j hj => by rw [(ps j hj).2.2.2.1]; exact lf3_in (hd j hj)
      have esh : w32 (((2 ^ n : Nat) : Int) - 1) = ((2 ^ n : Nat) : Int) - 1 := w32_eq (by omega) (by omega)
      obtain ⟨a, ha⟩ : ∃ a, a = ((2 ^ n : Nat) : Int) - 1 := ⟨_, rfl⟩
      have eq := sE_eq (v := v) (a := a) (n := 2 ^ n) (W := fun q => wSF (I 21 0) (I 22 0) q n) (V := fun q => wSF (I 45 0) (lf3 (I 46 0)) q n) (fun q _ => wSF_eq (fun j hj => ⟨(ps j hj).2.1, (ps j hj).2.2.2.1⟩))
      have lc : ∀ (d : Nat) (Q : Option AV → AMem → Prop), _ ↔ _ := fun d Q => l_C_sure (d := d) (Q := Q) (sc := sc) (I := I) (J := J) (v := v) hn6 hs ha hL (2 ^ n) 0 (Nat.zero_add _)
      by_cases z : sF (fun q => wSF (I 45 0) (lf3 (I 46 0)) q n) v (2 ^ n) = 0
      · refine opW_fd h (f := 4) (by decide) (fun d Q hQ => ?_) (fun d Q hQ => ?_)
        · simp only [b_C_sure_0, b_C_sure_4, b_C_sure_11, b_C_sure_13, b_C_sure_20, b_C_sure_23, b_C_sure_26, b_C_sure_33, s_F_isEmpty, b_F_setCount_0, nz, hs, shl_n hn6, esh, v1, v2, i10, ap_s, ap_n, and_self, and_true, true_and, if_true, if_false, not_true_eq_false, not_false_eq_true, Int.toNat_natCast]
          rw [← ha]
          refine (lc (d + 17) Q).mpr ?_
          rw [eq.1, eq.2.1, eq.2.2, b_C_sure_87, if_pos z, b_C_sure_92, s_C_fd4, ap_s, b_C_sure_97]
          exact hQ
        · simp only [b_D_sure_0, b_D_sure_8, b_D_sure_11, b_D_sure_13, b_D_sure_20, b_D_sure_23, s_D_in, fC39, nz, hn, shl_n hn6, esh, v0, v1, i10, ap_s, ap_n, and_self, and_true, true_and, if_true, if_false, not_true_eq_false, not_false_eq_true, Int.toNat_natCast]
          rw [← ha]
          refine (l_D_sure (d := d + 17) (Q := Q) (sc := sc) (I := fdC I 4) (J := J) (v := v) hn6 hn ha hd (2 ^ n) 0 (Nat.zero_add _)).mpr ?_
          rw [b_D_sure_80]
          rw [if_pos (show sF (fun q => wSF (fdC I 4 45 0) (lf3 (fdC I 4 46 0)) q n) v (2 ^ n) = 0 from z), b_D_sure_99, s_D_fd4, ap_s, b_D_sure_104]
          exact hQ
      · refine ⟨(sE (fun q => wSF (I 45 0) (lf3 (I 46 0)) q n) v a (2 ^ n)), fun x y => x = upI I 0 0 6 (i_and a (i_xor (sA (fun q => wSF (I 45 0) (lf3 (I 46 0)) q n) v (2 ^ n)) (-1))) ∧ y = J, fun d Q hQ => ?_, fun x y hab d Q hQ => ?_⟩
        · simp only [b_C_sure_0, b_C_sure_4, b_C_sure_11, b_C_sure_13, b_C_sure_20, b_C_sure_23, b_C_sure_26, b_C_sure_33, s_F_isEmpty, b_F_setCount_0, nz, hs, shl_n hn6, esh, v1, v2, i10, ap_s, ap_n, and_self, and_true, true_and, if_true, if_false, not_true_eq_false, not_false_eq_true, Int.toNat_natCast]
          rw [← ha]
          refine (lc (d + 17) Q).mpr ?_
          rw [eq.1, eq.2.1, eq.2.2, b_C_sure_87, if_neg z, b_C_sure_98, b_C_sure_108]
          exact hQ _ _ ⟨rfl, rfl⟩
        · obtain ⟨e1, e2⟩ := hab
          subst e1 e2
          generalize hx : i_and a (i_xor (sA (fun q => wSF (I 45 0) (lf3 (I 46 0)) q n) v (2 ^ n)) (-1)) = x at *
          simp only [b_D_sure_0, b_D_sure_8, b_D_sure_11, b_D_sure_13, b_D_sure_20, b_D_sure_23, s_D_in, show upI I 0 0 6 x 39 = I 39 from rfl, nz, hn, shl_n hn6, esh, v0, v1, i10, ap_s, ap_n, and_self, and_true, true_and, if_true, if_false, not_true_eq_false, not_false_eq_true, Int.toNat_natCast]
          rw [← ha]
          refine (l_D_sure (d := d + 17) (Q := Q) (sc := sc) (I := upI I 0 0 6 x) (J := y) (v := v) hn6 hn ha hd (2 ^ n) 0 (Nat.zero_add _)).mpr ?_
          rw [b_D_sure_80]
          rw [if_neg (show ¬ sF (fun q => wSF (upI I 0 0 6 x 45 0) (lf3 (upI I 0 0 6 x 46 0)) q n) v (2 ^ n) = 0 from z), b_D_sure_85, s_D_tells, ap_s, b_D_sure_96, b_D_sure_104]
          show Q (some (vi (sE (fun q => wSF (I 45 0) (lf3 (I 46 0)) q n) v a (2 ^ n)))) (MM sc (upI (upI I 0 0 6 x) 39 0 12 (i_and a (i_xor (sA (fun q => wSF (I 45 0) (lf3 (I 46 0)) q n) v (2 ^ n)) (-1)))) y)
          rw [hx]
          refine hQ _ _ ?_
          obtain ⟨h1, h2, h3, h4, h5, a1, a2, a3, a4, a5⟩ := h
          exact ⟨h1, h2, h3, h4, h5, a1, rfl, a3, a4, a5⟩
  · refine opW_no h (-1) (fun d Q hQ => ?_) (fun d Q hQ => ?_)
    · simp only [b_C_sure_0, b_C_sure_4, b_C_sure_11, i10, ap_s, ap_n, and_self, and_true, true_and, if_true, if_false, not_true_eq_false, not_false_eq_true, Int.toNat_natCast]
      (repeat' split) <;> first | exact hQ | (exfalso; omega)
    · simp only [b_D_sure_0, b_D_sure_8, b_D_sure_11, s_D_in, hb, i10, ap_s, ap_n, and_self, and_true, true_and, if_true, if_false, not_true_eq_false, not_false_eq_true, Int.toNat_natCast]
      exact hQ
end SE
