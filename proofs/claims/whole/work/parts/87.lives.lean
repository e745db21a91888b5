/-! LIVES: what can be come to -/
def RR (k L n : Int) (m x : Nat) : Prop := ∃ q, q < 7 ^ m ∧ fL k L n m q = (x : Int)
theorem ltz {k L n : Int} (hL : 0 ≤ L) : lt k L 0 n = L := by
  unfold lt
  rw [ld_c0]
  by_cases h : k = 5
  · rw [if_pos h, if_neg (by omega)]
  · rw [if_neg h, if_pos rfl]
theorem RR_step {k L n : Int} {m x c t : Nat} (hc : c < 7) (h : RR k L n m x) (ht : lt k (x : Int) (c : Int) (n + m) = (t : Int)) : RR k L n (m + 1) t := by
  obtain ⟨q, hq, e⟩ := h
  have hp := Nat.pow_succ 7 m
  refine ⟨7 * q + c, by omega, ?_⟩
  rw [fL_c hc, e, ht]
theorem RR_up {k L n : Int} {m x : Nat} (h : RR k L n m x) : RR k L n (m + 1) x := RR_step (c := 0) (by decide) h (ltz (Int.natCast_nonneg x))
theorem RR_le {k L n : Int} {m x : Nat} (h : RR k L n m x) : ∀ j : Nat, RR k L n (m + j) x
  | 0 => h
  | j + 1 => RR_up (RR_le h j)
theorem RR_inv {k L n : Int} (hL : 0 ≤ L ∧ L ≤ 999) {m x : Nat} (h : RR k L n (m + 1) x) : ∃ y c : Nat, y < 1000 ∧ c < 7 ∧ RR k L n m y ∧ lt k (y : Int) (c : Int) (n + m) = (x : Int) := by
  obtain ⟨q, hq, e⟩ := h
  have hp := Nat.pow_succ 7 m
  have fin := fL_in (k := k) (n := n) hL m (q / 7)
  obtain ⟨y, hy⟩ := Int.eq_ofNat_of_zero_le fin.1
  refine ⟨y, q % 7, by omega, by omega, ⟨q / 7, by omega, hy⟩, ?_⟩
  rw [← hy]
  exact e
theorem cf_iff {f g : Nat → Int} {v w : Int} : ∀ {N : Nat}, (∀ j, j < N → (f j = v ↔ g j = w)) → cf f v N = cf g w N
  | 0, _ => rfl
  | N + 1, h => by
    have ih := cf_iff (N := N) (fun j hj => h j (by omega))
    have hN := h N (by omega)
    unfold cf
    rw [ih]
    by_cases z : f N = v
    · rw [if_pos z, if_pos (hN.mp z)]
    · rw [if_neg z, if_neg (fun y => z (hN.mpr y))]
theorem cf_up {f : Nat → Int} {v w : Int} {x : Nat} (hf : f x = v) (hw : w ≠ v) : ∀ {N : Nat}, x < N → cf (upF f x w) v N = cf f v N - 1
  | 0, h => by omega
  | N + 1, h => by
    unfold cf
    by_cases e : x = N
    · subst e
      have q : cf (upF f x w) v x = cf f v x := cf_iff (fun j hj => by rw [show upF f x w j = f j from if_neg (by omega)])
      rw [q, show upF f x w x = w from if_pos rfl, if_neg hw, if_pos hf]
      omega
    · rw [cf_up hf hw (N := N) (by omega), show upF f x w N = f N from if_neg (fun z => e z.symm)]
      omega
theorem cf_ne {f : Nat → Int} {v w : Int} {x N : Nat} (hf : f x ≠ v) (hw : w ≠ v) : cf (upF f x w) v N = cf f v N := cf_iff (fun j _ => by
  by_cases e : j = x
  · subst e
    rw [show upF f j w j = w from if_pos rfl]
    exact ⟨fun z => absurd z hw, fun z => absurd z hf⟩
  · rw [show upF f x w j = f j from if_neg e])
theorem cf_all {f : Nat → Int} {v : Int} : ∀ {N : Nat}, (∀ j, j < N → f j = v) → cf f v N = N
  | 0, _ => rfl
  | N + 1, h => by
    unfold cf
    rw [cf_all (N := N) (fun j hj => h j (by omega)), if_pos (h N (by omega))]
    omega
def lvP (k L n : Int) (m : Nat) (T : Nat → Int) : Prop := (∀ x, x < 1000 → T x ≠ -9 → RR k L n (m + 1) x) ∧ (∀ x, x < 1000 → ((T x ≠ -9 ∧ T x ≤ m) ↔ RR k L n m x)) ∧ (∀ x, x < 1000 → T x ≠ -9 → T x ≤ m + 1)
theorem lvP_add {k L n : Int} {m t : Nat} {T : Nat → Int} (h : lvP k L n m T) (ht : t < 1000) (hT : T t = -9) (hr : RR k L n (m + 1) t) : lvP k L n m (upF T t ((m + 1 : Nat) : Int)) := by
  obtain ⟨h1, h2, h3⟩ := h
  have rt : upF T t ((m + 1 : Nat) : Int) t = ((m + 1 : Nat) : Int) := if_pos rfl
  have rn : ∀ x, x ≠ t → upF T t ((m + 1 : Nat) : Int) x = T x := fun x hx => if_neg hx
  refine ⟨fun x hx z => ?_, fun x hx => ?_, fun x hx z => ?_⟩
  · by_cases e : x = t
    · subst e; exact hr
    · rw [rn x e] at z
      exact h1 x hx z
  · by_cases e : x = t
    · subst e
      rw [rt]
      constructor
      · intro z; omega
      · intro z
        have := (h2 x hx).mpr z
        exact absurd hT this.1
    · rw [rn x e]
      exact h2 x hx
  · by_cases e : x = t
    · subst e; rw [rt]; omega
    · rw [rn x e] at z ⊢
      exact h3 x hx z
section LV
variable {d : Nat} {Q : Option AV → AMem → Prop} {sc : SC} {I J : TI}
theorem l_C_lc {k L n F : Int} {m y : Nat} {T0 : Nat → Int} (hn : I 20 0 8 = n) (hn9 : 0 ≤ n ∧ n ≤ 900) (hm : m ≤ 4) (hy : y < 1000) (hF : 0 ≤ F) (hr : RR k L n m y)
    (hQ : ∀ (T : Nat → Int) (x3 x5 : Int) (o6 : Option AV), lvP k L n m T → (∀ x, x < 1000 → T0 x ≠ -9 → T x ≠ -9) → (∀ c : Nat, c < 7 → T (lt k (y : Int) (c : Int) (n + m)).toNat ≠ -9) → F + x3 = 1000 - cf T (-9) 1000 → 0 ≤ x3 → X (d + 4) m_C_livesNewlyFound 99 [some (vr 0 0), some (vi k), some (vi (m : Int)), some (vi x3), some (vi (y : Int)), some (vi x5), o6] [] (MM sc (up2 I 11 0 T) J) Q) : ∀ (r c : Nat) (T : Nat → Int) (x3 : Int) (o6 : Option AV), c + r = 7 → lvP k L n m T → (∀ x, x < 1000 → T0 x ≠ -9 → T x ≠ -9) → (∀ c', c' < c → T (lt k (y : Int) (c' : Int) (n + m)).toNat ≠ -9) → F + x3 = 1000 - cf T (-9) 1000 → 0 ≤ x3 → X (d + 4) m_C_livesNewlyFound 42 [some (vr 0 0), some (vi k), some (vi (m : Int)), some (vi x3), some (vi (y : Int)), some (vi (c : Int)), o6] [] (MM sc (up2 I 11 0 T) J) Q
  | 0, c, T, x3, o6, e, h1, h2, h3, h4, h5 => by
    have e1 : c = 7 := by omega
    subst e1
    rw [b_C_livesNewlyFound_42, if_pos (by omega)]
    exact hQ T x3 _ o6 h1 h2 h3 h4 h5
  | r + 1, c, T, x3, o6, e, h1, h2, h3, h4, h5 => by
    have c7 : c < 7 := by omega
    have li := lt_in (k := k) (L := (y : Int)) (c := (c : Int)) (n := n + m) (by omega) (by omega) (by omega) (by omega)
    obtain ⟨t, ht⟩ := Int.eq_ofNat_of_zero_le li.1
    have t1 : t < 1000 := by omega
    have tx : 0 ≤ (t : Int) ∧ (t : Int) < 1000 := by omega
    have rt := RR_step c7 hr ht
    have cin := cf_in (W := T) (v := -9) 1000
    have x3b : x3 ≤ 1000 := by omega
    have en : up2 I 11 0 T 20 0 8 = n := hn
    have et : up2 I 11 0 T 11 0 t = T t := by rw [up2_same]
    rw [b_C_livesNewlyFound_42, if_neg (by omega), b_C_livesNewlyFound_49, en, w32_eq (x := n + (m : Int)) (by omega) (by omega), s_K_lifeThen (by omega) (by omega) (by omega) (by omega) (by omega), ht, ap_s, b_C_livesNewlyFound_66, and_iff_right tx, Int.toNat_natCast, et, b_C_livesNewlyFound_75]
    by_cases z : T t = -9
    · have cu := cf_up (f := T) (v := -9) (w := ((m + 1 : Nat) : Int)) z (by omega) (N := 1000) t1
      rw [if_pos z, b_C_livesNewlyFound_80, and_iff_right tx, Int.toNat_natCast, up2_up, wsuc (by omega), b_C_livesNewlyFound_90, b_C_livesNewlyFound_93, wsuc (by omega), w32_eq (x := x3 + 1) (by omega) (by omega)]
      have up : ∀ x, T x ≠ -9 → upF T t ((m + 1 : Nat) : Int) x ≠ -9 := fun x hx => by
        by_cases e2 : x = t
        · rw [show upF T t ((m + 1 : Nat) : Int) x = ((m + 1 : Nat) : Int) from if_pos e2]; omega
        · rw [show upF T t ((m + 1 : Nat) : Int) x = T x from if_neg e2]; exact hx
      refine l_C_lc hn hn9 hm hy hF hr hQ r (c + 1) _ _ _ (by omega) (lvP_add h1 t1 z rt) (fun x hx hx0 => up x (h2 x hx hx0)) (fun c' hc' => ?_) (by omega) (by omega)
      by_cases e2 : c' = c
      · subst e2
        rw [ht, Int.toNat_natCast, show upF T t ((m + 1 : Nat) : Int) t = ((m + 1 : Nat) : Int) from if_pos rfl]
        omega
      · exact up _ (h3 c' (by omega))
    · rw [if_neg z, b_C_livesNewlyFound_93, wsuc (by omega)]
      refine l_C_lc hn hn9 hm hy hF hr hQ r (c + 1) T x3 _ (by omega) h1 h2 (fun c' hc' => ?_) h4 h5
      by_cases e2 : c' = c
      · subst e2
        rw [ht, Int.toNat_natCast]
        exact z
      · exact h3 c' (by omega)
theorem l_C_ln {k L n F : Int} {m : Nat} (hn : I 20 0 8 = n) (hn9 : 0 ≤ n ∧ n ≤ 900) (hm : m ≤ 4) (hF : 0 ≤ F)
    (hQ : ∀ (T : Nat → Int) (x3 : Int), lvP k L n m T → (∀ y, y < 1000 → RR k L n m y → ∀ c : Nat, c < 7 → T (lt k (y : Int) (c : Int) (n + m)).toNat ≠ -9) → F + x3 = 1000 - cf T (-9) 1000 → 0 ≤ x3 → Q (some (vi x3)) (MM sc (up2 I 11 0 T) J)) : ∀ (r y : Nat) (T : Nat → Int) (x3 : Int) (o5 o6 : Option AV), y + r = 1000 → lvP k L n m T → (∀ z, z < y → RR k L n m z → ∀ c : Nat, c < 7 → T (lt k (z : Int) (c : Int) (n + m)).toNat ≠ -9) → F + x3 = 1000 - cf T (-9) 1000 → 0 ≤ x3 → X (d + 4) m_C_livesNewlyFound 5 [some (vr 0 0), some (vi k), some (vi (m : Int)), some (vi x3), some (vi (y : Int)), o5, o6] [] (MM sc (up2 I 11 0 T) J) Q
  | 0, y, T, x3, o5, o6, e, h1, h3, h4, h5 => by
    have e1 : y = 1000 := by omega
    subst e1
    rw [b_C_livesNewlyFound_5, if_pos (by omega), b_C_livesNewlyFound_105]
    exact hQ T x3 h1 h3 h4 h5
  | r + 1, y, T, x3, o5, o6, e, h1, h3, h4, h5 => by
    have y1 : y < 1000 := by omega
    have yx : 0 ≤ (y : Int) ∧ (y : Int) < 1000 := by omega
    have ey : up2 I 11 0 T 11 0 y = T y := by rw [up2_same]
    have P2 := h1.2.1 y y1
    have skip : ¬ RR k L n m y → X (d + 4) m_C_livesNewlyFound 99 [some (vr 0 0), some (vi k), some (vi (m : Int)), some (vi x3), some (vi (y : Int)), o5, o6] [] (MM sc (up2 I 11 0 T) J) Q := fun z => by
      rw [b_C_livesNewlyFound_99, wsuc (by omega)]
      refine l_C_ln hn hn9 hm hF hQ r (y + 1) T x3 _ _ (by omega) h1 (fun z' hz' hr c hc => ?_) h4 h5
      by_cases e2 : z' = y
      · subst e2; exact absurd hr z
      · exact h3 z' (by omega) hr c hc
    rw [b_C_livesNewlyFound_5, if_neg (by omega), b_C_livesNewlyFound_13, and_iff_right yx, Int.toNat_natCast, ey, b_C_livesNewlyFound_20]
    by_cases z : T y = -9
    · rw [if_pos z]
      exact skip (fun w => (P2.mpr w).1 z)
    · rw [if_neg z, b_C_livesNewlyFound_25, and_iff_right yx, Int.toNat_natCast, ey, b_C_livesNewlyFound_32]
      by_cases w : T y ≤ m
      · rw [if_pos w, b_C_livesNewlyFound_39]
        refine l_C_lc (T0 := T) hn hn9 hm y1 hF (P2.mp ⟨z, w⟩) (fun T' x3' x5 o6' g1 g2 g3 g4 g5 => ?_) 7 0 T x3 o6 (by omega) h1 (fun _ _ q => q) (fun c hc => by omega) h4 h5
        rw [b_C_livesNewlyFound_99, wsuc (by omega)]
        refine l_C_ln hn hn9 hm hF hQ r (y + 1) T' x3' _ _ (by omega) g1 (fun z' hz' hr c hc => ?_) g4 g5
        by_cases e2 : z' = y
        · subst e2; exact g3 c hc
        · have li := lt_in (k := k) (L := (z' : Int)) (c := (c : Int)) (n := n + m) (by omega) (by omega) (by omega) (by omega)
          exact g2 _ (by omega) (h3 z' (by omega) hr c hc)
      · rw [if_neg w, b_C_livesNewlyFound_36]
        exact skip (fun q => w (P2.mpr q).2)
/-- what the class's table is behind m crossings -/
def lvQ (k L n : Int) (m : Nat) (T : Nat → Int) : Prop := (∀ x, x < 1000 → (T x ≠ -9 ↔ RR k L n m x)) ∧ (∀ x, x < 1000 → T x ≠ -9 → T x ≤ m)
theorem lvQ_P {k L n : Int} {m : Nat} {T : Nat → Int} (h : lvQ k L n m T) : lvP k L n m T := by
  obtain ⟨h1, h2⟩ := h
  refine ⟨fun x hx z => RR_up ((h1 x hx).mp z), fun x hx => ⟨fun z => (h1 x hx).mp z.1, fun z => ⟨(h1 x hx).mpr z, h2 x hx ((h1 x hx).mpr z)⟩⟩, fun x hx z => ?_⟩
  have := h2 x hx z
  omega
theorem lvP_Q {k L n : Int} (hL : 0 ≤ L ∧ L ≤ 999) {m : Nat} {T : Nat → Int} (h : lvP k L n m T) (hc : ∀ y, y < 1000 → RR k L n m y → ∀ c : Nat, c < 7 → T (lt k (y : Int) (c : Int) (n + m)).toNat ≠ -9) : lvQ k L n (m + 1) T := by
  obtain ⟨h1, h2, h3⟩ := h
  refine ⟨fun x hx => ⟨fun z => h1 x hx z, fun z => ?_⟩, fun x hx z => ?_⟩
  · obtain ⟨y, c, y1, c7, hy, e⟩ := RR_inv hL z
    have := hc y y1 hy c c7
    rw [e, Int.toNat_natCast] at this
    exact this
  · have := h3 x hx z
    omega
theorem l_C_lv {k L n : Int} {i N : Nat} (hi : i < 6) (hk : I 21 0 i = k) (hL : 0 ≤ L ∧ L ≤ 999) (hn : I 20 0 8 = n) (hn9 : 0 ≤ n ∧ n ≤ 900) (hN : N ≤ 4)
    (hQ : ∀ (T : Nat → Int) (x3 : Int), lvQ k L n N T → x3 = 1000 - cf T (-9) 1000 → X (d + 5) m_C_lives 78 [some (vr 0 0), some (vi (i : Int)), some (vi (N : Int)), some (vi x3), some (vi (N : Int))] [] (MM sc (up2 I 11 0 T) J) Q) : ∀ (r m : Nat) (T : Nat → Int) (x3 : Int), m + r = N → lvQ k L n m T → x3 = 1000 - cf T (-9) 1000 → X (d + 5) m_C_lives 48 [some (vr 0 0), some (vi (i : Int)), some (vi (N : Int)), some (vi x3), some (vi (m : Int))] [] (MM sc (up2 I 11 0 T) J) Q
  | 0, m, T, x3, e, h1, h2 => by
    have e1 : m = N := by omega
    subst e1
    rw [b_C_lives_48, if_pos (Int.le_refl _)]
    exact hQ T x3 h1 h2
  | r + 1, m, T, x3, e, h1, h2 => by
    have ix : 0 ≤ (i : Int) ∧ (i : Int) < 6 := by omega
    have cin := cf_in (W := T) (v := -9) 1000
    have ek : up2 I 11 0 T 21 0 i = k := hk
    rw [b_C_lives_48, if_neg (by omega), b_C_lives_54, and_iff_right ix, Int.toNat_natCast, ek, b_C_lives_65, b_C_livesNewlyFound_0]
    refine l_C_ln (L := L) (F := x3) hn hn9 (by omega) (by omega) (fun T' y3 g1 g2 g3 g4 => ?_) 1000 0 T 0 none none (by omega) (lvQ_P h1) (fun z hz => by omega) (by omega) (by omega)
    have cin' := cf_in (W := T') (v := -9) 1000
    rw [ap_s, b_C_lives_70, w32_eq (x := x3 + y3) (by omega) (by omega), wsuc (by omega)]
    exact l_C_lv hi hk hL hn hn9 hN hQ r (m + 1) T' _ (by omega) (lvP_Q hL g1 g2) (by omega)
end LV
