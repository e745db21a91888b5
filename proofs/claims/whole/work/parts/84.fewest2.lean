/-! FEWEST, the class -/
def okF (bank a b e L B : Int) : Prop := (bank = -1 ∨ bank = B) ∧ asV L a b e = 1
theorem asV_01 (L a b e : Int) : asV L a b e = 0 ∨ asV L a b e = 1 := by unfold asV; split <;> simp
theorem up2_cm {I : TI} {t i t' i' : Nat} {f g : Nat → Int} (h : t ≠ t') : up2 (up2 I t i f) t' i' g = up2 (up2 I t' i' g) t i f := by
  funext x y p
  simp only [rd_up2]
  by_cases h1 : x = t' ∧ y = i'
  · rw [if_pos h1, if_neg (by omega), if_pos h1]
  · rw [if_neg h1, if_neg h1]
theorem upI_cm {I : TI} {t i t' i' p : Nat} {f : Nat → Int} {v : Int} (h : t ≠ t') : upI (up2 I t i f) t' i' p v = up2 (upI I t' i' p v) t i f := by
  funext x y z
  simp only [rd_up2, rd_up]
  by_cases h1 : x = t' ∧ y = i' ∧ z = p
  · rw [if_pos h1, if_neg (by omega), if_pos h1]
  · rw [if_neg h1, if_neg h1]
section FC
variable {d : Nat} {Q : Option AV → AMem → Prop} {sc : SC} {I J : TI}
theorem s_C_isF {k L0 n0 b0 bank wa wb we : Int} {N : Nat} (hL0 : 0 ≤ L0 ∧ L0 ≤ 999) (hb0 : b0 = 0 ∨ b0 = 1) (hn0 : 0 ≤ n0 ∧ n0 ≤ 900) (hN : N ≤ 4) (i2 : I 30 0 2 = k) (i3 : I 30 0 3 = n0) (i4 : I 30 0 4 = N) (i5 : I 30 0 5 = bank) (ia : I 32 0 0 = wa) (ib : I 32 0 1 = wb) (ie : I 32 0 2 = we) : ∀ (r : Nat) {m q d : Nat} {p : Nat → Int} {Q : Option AV → AMem → Prop}, m + r = N →
    (∀ (q' : Nat) (p' : Nat → Int), q' / 7 ^ r = q → okF bank wa wb we (fL k L0 n0 N q') (fB k L0 n0 b0 N q') → (∀ x, x < q' → x / 7 ^ r = q → ¬ okF bank wa wb we (fL k L0 n0 N x) (fB k L0 n0 b0 N x)) → (∀ j, j < m → p' j = p j) → (∀ j, m ≤ j → j < N → p' j = dgt N q' j) → Q (some (vi 1)) (MM sc (up2 I 31 0 p') J)) →
    (∀ p' : Nat → Int, (∀ x, x / 7 ^ r = q → ¬ okF bank wa wb we (fL k L0 n0 N x) (fB k L0 n0 b0 N x)) → (∀ j, j < m → p' j = p j) → Q (some (vi 0)) (MM sc (up2 I 31 0 p') J)) →
    X (d + 3 + r) m_C_isFound 0 [some (vr 30 0), some (vi (m : Int)), some (vi (fL k L0 n0 m q)), some (vi (fB k L0 n0 b0 m q)), none, none, none] [] (MM sc (up2 I 31 0 p) J) Q
  | 0, m, q, d, p, Q, e, hQ1, hQ0 => by
    have e1 : m = N := by omega
    subst e1
    have lin := fL_in (k := k) (n := n0) hL0 m q
    have r5 : up2 I 31 0 p 30 0 5 = bank := i5
    have r4 : up2 I 31 0 p 30 0 4 = m := i4
    have as := s_L_isAs (d := d) (sc := sc) (I := up2 I 31 0 p) (J := J) (L := fL k L0 n0 m q) (t := 32) (i := 0) (n := 3) (Q := fun r mm => X (d + 3) m_C_isFound 41 [some (vr 30 0), some (vi (m : Int)), some (vi (fL k L0 n0 m q)), some (vi (fB k L0 n0 b0 m q)), none, none, none] (r.toList ++ []) mm Q) (fun _ _ => rfl) (Nat.le_refl _) lin.1 lin.2
    have a1 : up2 I 31 0 p 32 0 0 = wa := ia
    have a2 : up2 I 31 0 p 32 0 1 = wb := ib
    have a3 : up2 I 31 0 p 32 0 2 = we := ie
    rw [a1, a2, a3] at as
    have no : ¬ okF bank wa wb we (fL k L0 n0 m q) (fB k L0 n0 b0 m q) → Q (some (vi 0)) (MM sc (up2 I 31 0 p) J) := fun z => hQ0 p (fun x hx => by
      rw [Nat.pow_zero, Nat.div_one] at hx
      rw [hx]
      exact z) (fun _ _ => rfl)
    have yes : okF bank wa wb we (fL k L0 n0 m q) (fB k L0 n0 b0 m q) → Q (some (vi 1)) (MM sc (up2 I 31 0 p) J) := fun z => hQ1 q p (by rw [Nat.pow_zero, Nat.div_one]) z (fun x hx h2 => by
      rw [Nat.pow_zero, Nat.div_one] at h2
      omega) (fun _ _ => rfl) (fun j h1 h2 => by omega)
    have leaf : (bank = -1 ∨ bank = fB k L0 n0 b0 m q) → X (d + 3) m_C_isFound 33 [some (vr 30 0), some (vi (m : Int)), some (vi (fL k L0 n0 m q)), some (vi (fB k L0 n0 b0 m q)), none, none, none] [] (MM sc (up2 I 31 0 p) J) Q := fun z => by
      rw [b_C_isFound_33]
      refine as.mpr ?_
      rw [ap_s, b_C_isFound_41, b_C_isFound_48, b_C_isFound_44, b_C_isFound_49, b_C_isFound_49]
      rcases asV_01 (fL k L0 n0 m q) wa wb we with y | y
      · rw [if_pos y]
        exact ⟨Or.inl rfl, no (fun w => by have w2 := w.2; rw [y] at w2; exact absurd w2 (by decide))⟩
      · rw [if_neg (by rw [y]; decide)]
        exact ⟨Or.inr rfl, yes ⟨z, y⟩⟩
    show X (d + 3) _ _ _ _ _ _
    rw [b_C_isFound_0, r4, if_pos (Int.le_refl _), b_C_isFound_17, r5]
    by_cases z1 : bank = -1
    · rw [if_pos z1]
      exact leaf (Or.inl z1)
    · rw [if_neg z1, b_C_isFound_25, r5]
      by_cases z2 : bank = fB k L0 n0 b0 m q
      · rw [if_pos z2]
        exact leaf (Or.inr z2)
      · rw [if_neg z2, b_C_isFound_48, b_C_isFound_49]
        exact ⟨Or.inl rfl, no (fun w => by rcases w.1 with y | y; exact z1 y; exact z2 y)⟩
  | r + 1, m, q, d, p, Q, e, hQ1, hQ0 => by
    have lin := fL_in (k := k) (n := n0) hL0 m q
    have bin := fB_in (k := k) (L := L0) (n := n0) hb0 m q
    have mN : m < N := by omega
    have dv : ∀ x : Nat, x / 7 ^ (r + 1) = x / 7 ^ r / 7 := fun x => by rw [Nat.pow_succ, Nat.div_div_eq_div_mul]
    have loop : ∀ (t c : Nat) (o5 o6 : Option AV) (p1 : Nat → Int), c + t = 7 → (∀ j, j < m → p1 j = p j) → (∀ x, x / 7 ^ (r + 1) = q → x / 7 ^ r < 7 * q + c → ¬ okF bank wa wb we (fL k L0 n0 N x) (fB k L0 n0 b0 N x)) → X (d + 3 + (r + 1)) m_C_isFound 53 [some (vr 30 0), some (vi (m : Int)), some (vi (fL k L0 n0 m q)), some (vi (fB k L0 n0 b0 m q)), some (vi (c : Int)), o5, o6] [] (MM sc (up2 I 31 0 p1) J) Q := by
      intro t
      induction t with
      | zero =>
        intro c o5 o6 p1 ec hp hno
        have e1 : c = 7 := by omega
        subst e1
        rw [b_C_isFound_53, if_pos (by omega), b_C_isFound_140]
        refine hQ0 p1 (fun x hx => hno x hx ?_) hp
        rw [dv] at hx
        omega
      | succ t ih =>
        intro c o5 o6 p1 ec hp hno
        have c7 : c < 7 := by omega
        have n3 : up2 I 31 0 (upF p1 m (c : Int)) 30 0 3 = n0 := i3
        have n2 : up2 I 31 0 (upF p1 m (c : Int)) 30 0 2 = k := i2
        have mb : 0 ≤ (m : Int) ∧ (m : Int) < 4 := by omega
        have w1 : w32 (n0 + (m : Int)) = n0 + m := w32_eq (by omega) (by omega)
        have w2 : w32 ((m : Int) + 1) = ((m + 1 : Nat) : Int) := wsuc (by omega)
        have w3 : w32 (1 - fB k L0 n0 b0 m q) = 1 - fB k L0 n0 b0 m q := w32_eq (by omega) (by omega)
        have w4 : w32 ((c : Int) + 1) = ((c + 1 : Nat) : Int) := wsuc (by omega)
        have ch : ∀ (x5 x6 : Int), X (d + 3 + r) m_C_isFound 0 [some (vr 30 0), some (vi ((m + 1 : Nat) : Int)), some (vi (fL k L0 n0 (m + 1) (7 * q + c))), some (vi (fB k L0 n0 b0 (m + 1) (7 * q + c))), none, none, none] [] (MM sc (up2 I 31 0 (upF p1 m (c : Int))) J) (fun r' mm => X (d + 3 + r + 1) m_C_isFound 129 [some (vr 30 0), some (vi (m : Int)), some (vi (fL k L0 n0 m q)), some (vi (fB k L0 n0 b0 m q)), some (vi (c : Int)), some (vi x5), some (vi x6)] (r'.toList ++ []) mm Q) := by
          intro x5 x6
          clear w1 w2 w3
          refine s_C_isF hL0 hb0 hn0 hN i2 i3 i4 i5 ia ib ie r (m := m + 1) (q := 7 * q + c) (d := d) (p := upF p1 m (c : Int)) (by clear w4; omega) (fun q' p' h1 h2 h3 h4 h5 => ?_) (fun p' h1 h2 => ?_)
          · rw [ap_s, b_C_isFound_129, if_neg (by decide), b_C_isFound_132]
            clear w4
            refine hQ1 q' p' (by rw [dv, h1]; omega) h2 (fun x hx hx2 => ?_) (fun j hj => ?_) (fun j hj1 hj2 => ?_)
            · by_cases z : x / 7 ^ r = 7 * q + c
              · exact h3 x hx z
              · refine hno x hx2 ?_
                have le := Nat.div_le_div_right (c := 7 ^ r) (Nat.le_of_lt hx)
                rw [h1] at le
                omega
            · rw [h4 j (by omega)]
              exact (if_neg (by omega)).trans (hp j hj)
            · by_cases z : j = m
              · rw [h4 j (by omega), z]
                show (if m = m then (c : Int) else p1 m) = dgt N q' m
                rw [if_pos rfl]
                unfold dgt
                rw [show N - 1 - m = r by omega, h1]
                omega
              · exact h5 j (by omega) hj2
          · rw [ap_s, b_C_isFound_129, if_pos rfl, b_C_isFound_134, w4]
            clear w4
            refine ih (c + 1) _ _ p' (by omega) (fun j hj => ?_) (fun x hx hx2 => ?_)
            · rw [h2 j (by omega)]
              exact (if_neg (by omega)).trans (hp j hj)
            · by_cases z : x / 7 ^ r = 7 * q + c
              · exact h1 x z
              · exact hno x hx (by omega)
        rw [fL_c c7, fB_c c7] at ch
        show X (d + 3 + r + 1) _ _ _ _ _ _
        have c07 : ¬ 7 ≤ (c : Int) := by clear w1 w2 w3 w4; omega
        have cc : 0 ≤ (c : Int) ∧ (c : Int) ≤ 6 := by clear w1 w2 w3 w4; omega
        have nn : 0 ≤ n0 + (m : Int) := by clear w1 w2 w3 w4; omega
        have ld' := fun Q => s_K_landing (d := d + r + 1) (sc := sc) (I := up2 I 31 0 (upF p1 m (c : Int))) (J := J) (k := k) (Q := Q) cc.1 cc.2 lin.1 lin.2 nn
        rw [b_C_isFound_53, if_neg c07, b_C_isFound_60, and_iff_right mb, Int.toNat_natCast, up2_up, show d + 3 + r + 1 = (d + r + 1 + 2) + 1 by clear w1 w2 w3 w4; omega, b_C_isFound_68, n2, n3, w1]
        refine (ld' _).mpr ?_
        rw [show (d + r + 1 + 2) + 1 = d + 3 + r + 1 by clear w1 w2 w3 w4; omega, ap_s, b_C_isFound_84]
        by_cases z : ld k (fL k L0 n0 m q) (c : Int) (n0 + m) = -1
        · have lz : lt k (fL k L0 n0 m q) (c : Int) (n0 + m) = fL k L0 n0 m q := if_pos z
          rw [lz, if_pos z] at ch
          rw [if_pos z, b_C_isFound_96, b_C_isFound_97, if_pos rfl, b_C_isFound_113, b_C_isFound_114, if_pos rfl, b_C_isFound_125, w2, b_C_isFound_126]
          exact ch _ _
        · have lz : lt k (fL k L0 n0 m q) (c : Int) (n0 + m) = ld k (fL k L0 n0 m q) (c : Int) (n0 + m) := if_neg z
          rw [lz, if_neg z] at ch
          rw [if_neg z, b_C_isFound_92, b_C_isFound_97, if_neg (by decide), b_C_isFound_108, b_C_isFound_114, if_neg (by decide), b_C_isFound_119, w2, w3, b_C_isFound_126]
          exact ch _ _
    have r4 : up2 I 31 0 p 30 0 4 = N := i4
    rw [b_C_isFound_0, r4, if_neg (by omega), b_C_isFound_8, if_pos (by omega), b_C_isFound_50]
    refine loop 7 0 none none p (by omega) (fun _ _ => rfl) (fun x hx h2 => ?_)
    rw [dv] at hx
    omega
end FC
