/-! FEWEST, the loops -/
def fwC (M : TI) (to N : Nat) : TI := up2 (rnI M to N 0) 29 to (cpF (rnI M to N 0 31 0) (rnI M to N 0 29 to) 0 0 N)
theorem div_0 {q n : Nat} (h : q / 7 ^ n = 0) : q < 7 ^ n := by
  by_cases z : 7 ^ n ≤ q
  · have := Nat.div_pos z (p7_1 n)
    omega
  · omega
section FF
variable {d : Nat} {Q : Option AV → AMem → Prop} {sc : SC} {I J : TI}
theorem s_C_isD {k L0 n0 b0 bank wa wb we : Int} {N D : Nat} {p : Nat → Int} (hD : N + 3 ≤ D) (hL0 : 0 ≤ L0 ∧ L0 ≤ 999) (hb0 : b0 = 0 ∨ b0 = 1) (hn0 : 0 ≤ n0 ∧ n0 ≤ 900) (hN : N ≤ 4) (i2 : I 30 0 2 = k) (i3 : I 30 0 3 = n0) (i4 : I 30 0 4 = N) (i5 : I 30 0 5 = bank) (ia : I 32 0 0 = wa) (ib : I 32 0 1 = wb) (ie : I 32 0 2 = we)
    (hQ1 : ∀ (q' : Nat) (p' : Nat → Int), q' < 7 ^ N → okF bank wa wb we (fL k L0 n0 N q') (fB k L0 n0 b0 N q') → (∀ x, x < q' → ¬ okF bank wa wb we (fL k L0 n0 N x) (fB k L0 n0 b0 N x)) → (∀ j, j < N → p' j = dgt N q' j) → Q (some (vi 1)) (MM sc (up2 I 31 0 p') J))
    (hQ0 : ∀ p' : Nat → Int, (∀ x, x < 7 ^ N → ¬ okF bank wa wb we (fL k L0 n0 N x) (fB k L0 n0 b0 N x)) → Q (some (vi 0)) (MM sc (up2 I 31 0 p') J)) : X D m_C_isFound 0 [some (vr 30 0), some (vi 0), some (vi L0), some (vi b0), none, none, none] [] (MM sc (up2 I 31 0 p) J) Q := by
  obtain ⟨d, rfl⟩ : ∃ d, D = d + 3 + N := ⟨D - 3 - N, by omega⟩
  refine s_C_isF hL0 hb0 hn0 hN i2 i3 i4 i5 ia ib ie N (m := 0) (q := 0) (Nat.zero_add _) (fun q' p' h1 h2 h3 h4 h5 => ?_) (fun p' h1 h2 => ?_)
  · have lt := div_0 h1
    exact hQ1 q' p' lt h2 (fun x hx => h3 x hx (Nat.div_eq_of_lt (by omega))) (fun j hj => h5 j (Nat.zero_le _) hj)
  · exact hQ0 p' (fun x hx => h1 x (Nat.div_eq_of_lt hx))
theorem fw1 {a p : Nat → Int} {v : Int} : upI (up2 (up2 I 30 0 a) 31 0 p) 30 0 4 v = up2 (up2 I 30 0 (upF a 4 v)) 31 0 p := by
  rw [upI_cm (by decide), up2_up]
/-- one level of the class's search -/
theorem st_C_fw {k L0 n0 b0 bank wa wb we x5 : Int} {i r to n : Nat} {a p : Nat → Int} (hi : i < 6) (hL0 : 0 ≤ L0 ∧ L0 ≤ 999) (hb0 : b0 = 0 ∨ b0 = 1) (hn0 : 0 ≤ n0 ∧ n0 ≤ 900) (hn : n ≤ 4) (i22 : I 22 0 i = L0) (i23 : I 23 0 i = b0) (ia : I 32 0 0 = wa) (ib : I 32 0 1 = wb) (ie : I 32 0 2 = we) (a2 : a 2 = k) (a3 : a 3 = n0) (a5 : a 5 = bank)
    (hQ1 : ∀ (q' : Nat) (p' : Nat → Int), q' < 7 ^ n → okF bank wa wb we (fL k L0 n0 n q') (fB k L0 n0 b0 n q') → (∀ x, x < q' → ¬ okF bank wa wb we (fL k L0 n0 n x) (fB k L0 n0 b0 n x)) → (∀ j, j < n → p' j = dgt n q' j) → X (d + 8) m_C_fewest 167 [some (vr 0 0), some (vi (i : Int)), some (vi (r : Int)), some (vi bank), some (vi (to : Int)), some (vi x5), some (vi (n : Int))] [] (MM sc (up2 (up2 I 30 0 (upF a 4 (n : Int))) 31 0 p') J) Q)
    (hQ0 : ∀ p' : Nat → Int, (∀ x, x < 7 ^ n → ¬ okF bank wa wb we (fL k L0 n0 n x) (fB k L0 n0 b0 n x)) → X (d + 8) m_C_fewest 123 [some (vr 0 0), some (vi (i : Int)), some (vi (r : Int)), some (vi bank), some (vi (to : Int)), some (vi x5), some (vi ((n + 1 : Nat) : Int))] [] (MM sc (up2 (up2 I 30 0 (upF a 4 (n : Int))) 31 0 p') J) Q) : X (d + 8) m_C_fewest 123 [some (vr 0 0), some (vi (i : Int)), some (vi (r : Int)), some (vi bank), some (vi (to : Int)), some (vi x5), some (vi (n : Int))] [] (MM sc (up2 (up2 I 30 0 a) 31 0 p) J) Q := by
  have ix : 0 ≤ (i : Int) ∧ (i : Int) < 6 := by omega
  have e22 : up2 (up2 I 30 0 (upF a 4 (n : Int))) 31 0 p 22 0 i = L0 := i22
  have e23 : up2 (up2 I 30 0 (upF a 4 (n : Int))) 31 0 p 23 0 i = b0 := i23
  rw [b_C_fewest_123, if_neg (by omega), b_C_fewest_129, fw1, b_C_fewest_138, and_iff_right ix, Int.toNat_natCast, e22, b_C_fewest_152, and_iff_right ix, Int.toNat_natCast, e23, b_C_fewest_161]
  refine s_C_isD (I := up2 I 30 0 (upF a 4 (n : Int))) (N := n) (D := d + 7) (by omega) hL0 hb0 hn0 hn a2 a3 rfl a5 ia ib ie (fun q' p' h1 h2 h3 h4 => ?_) (fun p' h1 => ?_)
  · rw [ap_s, b_C_fewest_164, if_neg (by decide)]
    exact hQ1 q' p' h1 h2 h3 h4
  · rw [ap_s, b_C_fewest_164, if_pos rfl, b_C_fewest_207, wsuc (by omega)]
    exact hQ0 p' h1
theorem l_C_fs {k L0 n0 b0 bank wa wb we x5 : Int} {i r to N : Nat} (hi : i < 6) (hL0 : 0 ≤ L0 ∧ L0 ≤ 999) (hb0 : b0 = 0 ∨ b0 = 1) (hn0 : 0 ≤ n0 ∧ n0 ≤ 900) (hN : N ≤ 5) (i22 : I 22 0 i = L0) (i23 : I 23 0 i = b0) (ia : I 32 0 0 = wa) (ib : I 32 0 1 = wb) (ie : I 32 0 2 = we) (hno : ∀ n, n < N → ∀ q, q < 7 ^ n → ¬ okF bank wa wb we (fL k L0 n0 n q) (fB k L0 n0 b0 n q))
    (hQ : ∀ a p : Nat → Int, a 2 = k → a 3 = n0 → a 5 = bank → X (d + 8) m_C_fewest 123 [some (vr 0 0), some (vi (i : Int)), some (vi (r : Int)), some (vi bank), some (vi (to : Int)), some (vi x5), some (vi (N : Int))] [] (MM sc (up2 (up2 I 30 0 a) 31 0 p) J) Q) : ∀ (m n : Nat) (a p : Nat → Int), n + m = N → a 2 = k → a 3 = n0 → a 5 = bank → X (d + 8) m_C_fewest 123 [some (vr 0 0), some (vi (i : Int)), some (vi (r : Int)), some (vi bank), some (vi (to : Int)), some (vi x5), some (vi (n : Int))] [] (MM sc (up2 (up2 I 30 0 a) 31 0 p) J) Q
  | 0, n, a, p, e, a2, a3, a5 => by
    have e1 : n = N := by omega
    subst e1
    exact hQ a p a2 a3 a5
  | m + 1, n, a, p, e, a2, a3, a5 => by
    refine st_C_fw hi hL0 hb0 hn0 (by omega) i22 i23 ia ib ie a2 a3 a5 (fun q' p' h1 h2 h3 h4 => absurd h2 (hno n (by omega) q' h1)) (fun p' h1 => ?_)
    exact l_C_fs hi hL0 hb0 hn0 hN i22 i23 ia ib ie hno hQ m (n + 1) _ p' (by omega) a2 a3 a5
theorem l_C_ff {k L0 n0 b0 bank wa wb we x5 : Int} {i r to N q0 : Nat} {a p : Nat → Int} (hi : i < 6) (hto : to < 6) (hL0 : 0 ≤ L0 ∧ L0 ≤ 999) (hb0 : b0 = 0 ∨ b0 = 1) (hn0 : 0 ≤ n0 ∧ n0 ≤ 900) (hN : N ≤ 4) (i22 : I 22 0 i = L0) (i23 : I 23 0 i = b0) (ia : I 32 0 0 = wa) (ib : I 32 0 1 = wb) (ie : I 32 0 2 = we) (a2 : a 2 = k) (a3 : a 3 = n0) (a5 : a 5 = bank) (hq0 : q0 < 7 ^ N) (hok : okF bank wa wb we (fL k L0 n0 N q0) (fB k L0 n0 b0 N q0)) (hls : ∀ x, x < q0 → ¬ okF bank wa wb we (fL k L0 n0 N x) (fB k L0 n0 b0 N x))
    (hQ : ∀ a p : Nat → Int, (∀ j, j < N → p j = dgt N q0 j) → Q (some (vi (N : Int))) (MM sc (fwC (up2 (up2 I 30 0 a) 31 0 p) to N) J)) : X (d + 8) m_C_fewest 123 [some (vr 0 0), some (vi (i : Int)), some (vi (r : Int)), some (vi bank), some (vi (to : Int)), some (vi x5), some (vi (N : Int))] [] (MM sc (up2 (up2 I 30 0 a) 31 0 p) J) Q := by
  have tx : 0 ≤ (to : Int) ∧ (to : Int) < 6 := by omega
  have ll : 40 ≤ lenP to := by unfold lenP; split <;> omega
  refine st_C_fw hi hL0 hb0 hn0 hN i22 i23 ia ib ie a2 a3 a5 (fun q' p' h1 h2 h3 h4 => ?_) (fun p' h1 => absurd hok (h1 q0 hq0))
  have eq : q' = q0 := by
    by_cases z1 : q' < q0
    · exact absurd h2 (hls q' z1)
    · by_cases z2 : q0 < q'
      · exact absurd hok (h3 q0 z2)
      · omega
  subst eq
  rw [b_C_fewest_167, and_iff_right tx, Int.toNat_natCast, b_C_fewest_174, s_R_renew (show N ≤ lenP to by omega), ap_n, b_C_fewest_180, and_iff_right tx, Int.toNat_natCast, b_C_fewest_195, and_iff_right (by omega), b_C_fewest_204]
  exact hQ _ p' h4
/-- codes that don't do are passed over -/
theorem l_D_fq {bank wa wb we x5 : Int} {i r to n q0 : Nat} (hi : i < 6) (hr : r < 6) (hk : 0 ≤ I 45 0 i ∧ I 45 0 i ≤ 5) (hd : dg3 (I 46 0) i) (hb : I 46 0 (19 + i) = 0 ∨ I 46 0 (19 + i) = 1) (hn0 : 0 ≤ I 46 0 0 ∧ I 46 0 0 ≤ 900) (hn : n ≤ 4) (hq0 : q0 ≤ 7 ^ n) (ea : I 41 0 (40 * r) = wa) (eb : I 41 0 (40 * r + 1) = wb) (ee : I 41 0 (40 * r + 2) = we) (va : -1 ≤ wa) (vb : -1 ≤ wb) (ve : -1 ≤ we) (vk : -1 ≤ bank)
    (hno : ∀ q, q < q0 → ¬ okF bank wa wb we (fL (I 45 0 i) (lf3 (I 46 0) i) (I 46 0 0) n q) (fB (I 45 0 i) (lf3 (I 46 0) i) (I 46 0 0) (I 46 0 (19 + i)) n q))
    (hQ : ∀ s : Nat → Int, X (d + 4) m_D_fewest 70 [some (vr 39 0), some (vi (i : Int)), some (vi (r : Int)), some (vi bank), some (vi (to : Int)), some (vi x5), some (vi (n : Int)), some (vi (q0 : Int)), none, none] [] (MM sc (up2 I 47 0 s) J) Q) : ∀ (m q : Nat) (s : Nat → Int), q + m = q0 → X (d + 4) m_D_fewest 70 [some (vr 39 0), some (vi (i : Int)), some (vi (r : Int)), some (vi bank), some (vi (to : Int)), some (vi x5), some (vi (n : Int)), some (vi (q : Int)), none, none] [] (MM sc (up2 I 47 0 s) J) Q
  | 0, q, s, e => by
    have e1 : q = q0 := by omega
    subst e1
    exact hQ s
  | m + 1, q, s, e => by
    have pl := p7_le hn
    have ih := fun s => l_D_fq (to := to) (x5 := x5) hi hr hk hd hb hn0 hn hq0 ea eb ee va vb ve vk hno hQ m (q + 1) s (by omega)
    have nq := hno q (by omega)
    have nle : ¬ ((7 ^ n : Nat) : Int) ≤ (q : Int) := by omega
    have q24 : q ≤ 2401 := by omega
    have ws := wsuc (k := q) (by omega)
    rw [b_D_fewest_70, s_D_codesOf hn, ap_s, b_D_fewest_77, if_neg nle, b_D_fewest_80]
    refine s_D_cb hi hk hd hb hn0 hn q24 (fun s' h1 h2 h3 => ?_)
    rw [ap_n, b_D_fewest_89, s_D_isLife (L := fL (I 45 0 i) (lf3 (I 46 0) i) (I 46 0 0) n q) hi hr h2 h1 ea eb ee va vb ve, ap_s, b_D_fewest_99]
    rcases asV_01 (fL (I 45 0 i) (lf3 (I 46 0) i) (I 46 0 0) n q) wa wb we with y | y
    · rw [if_pos y, b_D_fewest_176, ws]
      exact ih s'
    · have n1 : ¬ bank = -1 := fun z => nq ⟨Or.inl z, y⟩
      have n2 : ¬ fB (I 45 0 i) (lf3 (I 46 0) i) (I 46 0 0) (I 46 0 (19 + i)) n q = bank := fun z => nq ⟨Or.inr z.symm, y⟩
      have n3 : ¬ bank < 0 := by clear ws; omega
      have i19 : 0 ≤ ((19 + i : Nat) : Int) ∧ ((19 + i : Nat) : Int) < 25 := by clear ws; omega
      rw [if_neg (by rw [y]; decide), b_D_fewest_102, if_neg n3, b_D_fewest_106, w19 hi, and_iff_right i19, Int.toNat_natCast, up2_same, h3, b_D_fewest_115, if_neg n2, b_D_fewest_176, ws]
      exact ih s'
theorem l_D_fl2 {bank wa wb we x5 : Int} {i r to N : Nat} (hi : i < 6) (hr : r < 6) (hk : 0 ≤ I 45 0 i ∧ I 45 0 i ≤ 5) (hd : dg3 (I 46 0) i) (hb : I 46 0 (19 + i) = 0 ∨ I 46 0 (19 + i) = 1) (hn0 : 0 ≤ I 46 0 0 ∧ I 46 0 0 ≤ 900) (hN : N ≤ 5) (ea : I 41 0 (40 * r) = wa) (eb : I 41 0 (40 * r + 1) = wb) (ee : I 41 0 (40 * r + 2) = we) (va : -1 ≤ wa) (vb : -1 ≤ wb) (ve : -1 ≤ we) (vk : -1 ≤ bank)
    (hno : ∀ n, n < N → ∀ q, q < 7 ^ n → ¬ okF bank wa wb we (fL (I 45 0 i) (lf3 (I 46 0) i) (I 46 0 0) n q) (fB (I 45 0 i) (lf3 (I 46 0) i) (I 46 0 0) (I 46 0 (19 + i)) n q))
    (hQ : ∀ (s : Nat → Int) (o7 : Option AV), X (d + 4) m_D_fewest 61 [some (vr 39 0), some (vi (i : Int)), some (vi (r : Int)), some (vi bank), some (vi (to : Int)), some (vi x5), some (vi (N : Int)), o7, none, none] [] (MM sc (up2 I 47 0 s) J) Q) : ∀ (m n : Nat) (s : Nat → Int) (o7 : Option AV), n + m = N → X (d + 4) m_D_fewest 61 [some (vr 39 0), some (vi (i : Int)), some (vi (r : Int)), some (vi bank), some (vi (to : Int)), some (vi x5), some (vi (n : Int)), o7, none, none] [] (MM sc (up2 I 47 0 s) J) Q
  | 0, n, s, o7, e => by
    have e1 : n = N := by omega
    subst e1
    exact hQ s o7
  | m + 1, n, s, o7, e => by
    have ih := fun s o7 => l_D_fl2 (to := to) (x5 := x5) hi hr hk hd hb hn0 hN ea eb ee va vb ve vk hno hQ m (n + 1) s o7 (by omega)
    rw [b_D_fewest_61, if_neg (by omega), b_D_fewest_67]
    refine l_D_fq hi hr hk hd hb hn0 (show n ≤ 4 by omega) (Nat.le_refl _) ea eb ee va vb ve vk (hno n (by omega)) (fun s' => ?_) (7 ^ n) 0 s (Nat.zero_add _)
    rw [b_D_fewest_70, s_D_codesOf (by omega), ap_s, b_D_fewest_77, if_pos (Int.le_refl _), b_D_fewest_182, wsuc (by omega)]
    exact ih s' _
theorem l_D_dg {bank x1 x2 x5 : Int} {to n q : Nat} {I0 : TI} (hto : to < 6) (hn : n ≤ 4) (hq : q ≤ 2401) (hQ : ∀ I' : TI, (∀ t i p : Nat, ¬ (t = 41 ∧ i = 0 ∧ 40 * to ≤ p ∧ p < 40 * to + n) → I' t i p = I0 t i p) → (∀ j, j < n → I' 41 0 (40 * to + j) = dgt n q j) → Q (some (vi (n : Int))) (MM sc I' J)) : ∀ (k : Nat) (I' : TI), k ≤ n → (∀ t i p : Nat, ¬ (t = 41 ∧ i = 0 ∧ 40 * to ≤ p ∧ p < 40 * to + n) → I' t i p = I0 t i p) → (∀ j, k ≤ j → j < n → I' 41 0 (40 * to + j) = dgt n q j) → X d m_D_fewest 137 [some (vr 39 0), some (vi x1), some (vi x2), some (vi bank), some (vi (to : Int)), some (vi x5), some (vi (n : Int)), some (vi (q : Int)), some (vi ((q / 7 ^ (n - k) : Nat) : Int)), some (vi ((k : Int) - 1))] [] (MM sc I' J) Q
  | 0, I', hk, h1, h2 => by
    rw [b_D_fewest_137, if_pos (by decide), b_D_fewest_173]
    exact hQ I' h1 (fun j hj => h2 j (Nat.zero_le _) hj)
  | k + 1, I', hk, h1, h2 => by
    have e : ((k + 1 : Nat) : Int) - 1 = (k : Int) := by omega
    have dl := Nat.div_le_self q (7 ^ (n - (k + 1)))
    have ix : 0 ≤ ((40 * to + k : Nat) : Int) ∧ ((40 * to + k : Nat) : Int) < 240 := by omega
    have k0 : ¬ (k : Int) < 0 := by omega
    have dd : q / 7 ^ (n - (k + 1)) / 7 = q / 7 ^ (n - k) := by
      rw [Nat.div_div_eq_div_mul, show 7 ^ (n - (k + 1)) * 7 = 7 ^ (n - k) by rw [show n - k = n - (k + 1) + 1 by omega, Nat.pow_succ]]
    have wd := wd7 (q := q / 7 ^ (n - (k + 1))) (by omega)
    have wp := wpred (q := k) (by omega)
    have w4 := w40 (r := to) (j := k) hto (by omega)
    rw [e, b_D_fewest_137, if_neg k0, b_D_fewest_142, w4, and_iff_right ix, Int.toNat_natCast, b_D_fewest_160, wm7, wd, wp, dd]
    clear wd wp w4
    refine l_D_dg hto hn hq hQ k _ (by omega) (fun t i p hp => ?_) (fun j hj1 hj2 => ?_)
    · rw [rd_up, if_neg (by omega)]
      exact h1 t i p hp
    · rw [rd_up]
      by_cases z : j = k
      · subst z
        rw [if_pos ⟨rfl, rfl, rfl⟩]
        unfold dgt
        rw [show n - 1 - j = n - (j + 1) by omega]
      · rw [if_neg (by omega)]
        exact h2 j (by omega) hj2
end FF
