/-! DUEL, the reference -/
theorem p7 (j : Nat) : ((7 ^ (j + 1) : Nat) : Int) = ((7 ^ j : Nat) : Int) * 7 := by rw [Nat.pow_succ, Int.natCast_mul]; rfl
theorem p7_le {j : Nat} (h : j ≤ 4) : 7 ^ j ≤ 2401 := by
  have := Nat.pow_le_pow_right (show 0 < 7 by decide) h
  have e : 7 ^ 4 = 2401 := by decide
  omega
theorem p7_i {j : Nat} (h : j ≤ 4) : 0 ≤ ((7 ^ j : Nat) : Int) ∧ ((7 ^ j : Nat) : Int) ≤ 2401 := ⟨Int.natCast_nonneg _, Int.ofNat_le.mpr (p7_le h)⟩
theorem p7_1 (j : Nat) : 1 ≤ 7 ^ j := Nat.pow_pos (by decide)
theorem p7_div {N m : Nat} (h : m < N) : 7 ^ (N - m) / 7 = 7 ^ (N - (m + 1)) := by
  rw [show N - m = N - (m + 1) + 1 by omega, Nat.pow_succ]
  exact Nat.mul_div_cancel _ (by decide)
theorem p7_dd {N m : Nat} (q : Nat) (h : m < N) : q / 7 ^ (N - (m + 1)) / 7 = q / 7 ^ (N - m) := by
  have e : 7 ^ (N - m) = 7 ^ (N - (m + 1)) * 7 := by rw [show N - m = N - (m + 1) + 1 by omega, Nat.pow_succ]
  rw [e, Nat.div_div_eq_div_mul]
def dK (ki kj Li Lj n0 : Int) (i j N q m : Nat) (s : Nat → Int) : Prop := (lf3 s i = dA ki Li n0 0 m (q / 7 ^ (N - m)) ∧ dg3 s i ∧ (s (19 + i) = 0 ∨ s (19 + i) = 1)) ∧ (lf3 s j = dA kj Lj n0 1 m (q / 7 ^ (N - m)) ∧ dg3 s j ∧ (s (19 + j) = 0 ∨ s (19 + j) = 1)) ∧ s 0 = n0 + m
theorem dK_i {ki kj Li Lj n0 : Int} {i j N q m : Nat} {s : Nat → Int} (hi : i < 6) (hj : j < 6) (hij : i ≠ j) (hm : m < N) (he : m % 2 = 0) (h : dK ki kj Li Lj n0 i j N q m s) : dK ki kj Li Lj n0 i j N q (m + 1) (crS ki s i ((q / 7 ^ (N - (m + 1)) % 7 : Nat) : Int)) := by
  obtain ⟨⟨a1, a2, a3⟩, ⟨b1, b2, b3⟩, c⟩ := h
  have q7 : 0 ≤ ((q / 7 ^ (N - (m + 1)) % 7 : Nat) : Int) ∧ ((q / 7 ^ (N - (m + 1)) % 7 : Nat) : Int) ≤ 6 := by omega
  have e := p7_dd q hm
  generalize hx : q / 7 ^ (N - (m + 1)) = x at *
  have cl := crS_lf (k := ki) hi a2 q7.1 q7.2
  have cb := crS_bank (k := ki) (s := s) hi q7.1 q7.2
  have o := crS_oth (k := ki) hi hj (Ne.symm hij) q7.1 q7.2 b2
  refine ⟨⟨?_, cl.2, ?_⟩, ⟨?_, o.2.1, ?_⟩, ?_⟩
  · rw [hx, dA, if_pos he, cl.1, a1, e, c]
  · rw [cb]
    split <;> omega
  · rw [hx, dA, if_neg (by omega), o.1, b1, e]
  · rw [o.2.2]
    exact b3
  · rw [crS_0, c]
    omega
theorem dK_j {ki kj Li Lj n0 : Int} {i j N q m : Nat} {s : Nat → Int} (hi : i < 6) (hj : j < 6) (hij : i ≠ j) (hm : m < N) (he : m % 2 = 1) (h : dK ki kj Li Lj n0 i j N q m s) : dK ki kj Li Lj n0 i j N q (m + 1) (crS kj s j ((q / 7 ^ (N - (m + 1)) % 7 : Nat) : Int)) := by
  obtain ⟨⟨a1, a2, a3⟩, ⟨b1, b2, b3⟩, c⟩ := h
  have q7 : 0 ≤ ((q / 7 ^ (N - (m + 1)) % 7 : Nat) : Int) ∧ ((q / 7 ^ (N - (m + 1)) % 7 : Nat) : Int) ≤ 6 := by omega
  have e := p7_dd q hm
  generalize hx : q / 7 ^ (N - (m + 1)) = x at *
  have cl := crS_lf (k := kj) hj b2 q7.1 q7.2
  have cb := crS_bank (k := kj) (s := s) hj q7.1 q7.2
  have o := crS_oth (k := kj) hj hi hij q7.1 q7.2 a2
  refine ⟨⟨?_, o.2.1, ?_⟩, ⟨?_, cl.2, ?_⟩, ?_⟩
  · rw [hx, dA, if_neg (by omega), o.1, a1, e]
  · rw [o.2.2]
    exact a3
  · rw [hx, dA, if_pos he, cl.1, b1, e, c]
  · rw [cb]
    split <;> omega
  · rw [crS_0, c]
    omega
theorem duV_leaf {ki kj Li Lj n0 : Int} {n q : Nat} : duV ki kj Li Lj n0 n (2 * n) q = tg (dA ki Li n0 0 (2 * n) q) - tg (dA kj Lj n0 1 (2 * n) q) := by
  unfold duV
  rw [show n - (2 * n + 1) / 2 = 0 by omega, show n - 2 * n / 2 = 0 by omega]
  rfl
theorem duV_root {ki kj Li Lj n0 : Int} {n q : Nat} : duV ki kj Li Lj n0 n 0 q = mt ki n Li n0 - mt kj n Lj (n0 + 1) := by
  unfold duV
  rw [show n0 + ((2 * ((0 + 1) / 2) : Nat) : Int) = n0 by omega, show n0 + 1 + ((2 * (0 / 2) : Nat) : Int) = n0 + 1 by omega]
  rfl
theorem dqN {q b : Nat} (hq : q ≤ 100000) : w32 ((q : Int).tdiv (b : Int)) = ((q / b : Nat) : Int) := by
  have l := Nat.div_le_self q b
  rw [td_eq (Int.natCast_nonneg q), ← Int.natCast_ediv]
  generalize q / b = x at *
  exact w32_eq (by omega) (by omega)
theorem tgx {L : Int} (h : 0 ≤ L ∧ L ≤ 999) : 0 ≤ tg L ∧ tg L ≤ 27 := by unfold tg; omega
section DV
variable {d : Nat} {Q : Option AV → AMem → Prop} {sc : SC} {I J : TI}
theorem l_D_co {n : Nat} (hn : n ≤ 4) : ∀ (m j : Nat), j + m = n → (X d m_D_codesOf 4 [some (vi (n : Int)), some (vi ((7 ^ j : Nat) : Int)), some (vi (j : Int))] [] (MM sc I J) Q ↔ Q (some (vi ((7 ^ n : Nat) : Int))) (MM sc I J))
  | 0, j, e => by
    have e1 : j = n := by omega
    subst e1
    rw [b_D_codesOf_4, if_pos (by omega), b_D_codesOf_20]
  | m + 1, j, e => by
    have q := p7_i (show j ≤ 4 by omega)
    rw [b_D_codesOf_4, if_neg (by omega), b_D_codesOf_9, w32_eq (x := ((7 ^ j : Nat) : Int) * 7) (by omega) (by omega), ← p7, wsuc (by omega)]
    exact l_D_co hn m (j + 1) (by omega)
theorem s_D_codesOf {n : Nat} (hn : n ≤ 4) : X d m_D_codesOf 0 [some (vi (n : Int)), none, none] [] (MM sc I J) Q ↔ Q (some (vi ((7 ^ n : Nat) : Int))) (MM sc I J) := by
  rw [b_D_codesOf_0]
  exact l_D_co hn n 0 (by omega)
theorem l_D_dl {i j n N q : Nat} (hi : i < 6) (hj : j < 6) (hij : i ≠ j) (ki : 0 ≤ I 45 0 i ∧ I 45 0 i ≤ 5) (kj : 0 ≤ I 45 0 j ∧ I 45 0 j ≤ 5) (hN : N ≤ 4) (hq : q ≤ 2400) {n0 Li Lj : Int} (hn : 0 ≤ n0 ∧ n0 ≤ 900)
    (hQ : ∀ s (x5 : Int), dK (I 45 0 i) (I 45 0 j) Li Lj n0 i j N q N s → X (d + 3) m_D_duel 118 [some (vr 39 0), some (vi (i : Int)), some (vi (j : Int)), some (vi (n : Int)), some (vi (q : Int)), some (vi x5), some (vi 0), none, none] [] (MM sc (up2 I 47 0 s) J) Q) : ∀ (r m : Nat) (s : Nat → Int), m + r = N → dK (I 45 0 i) (I 45 0 j) Li Lj n0 i j N q m s → X (d + 3) m_D_duel 64 [some (vr 39 0), some (vi (i : Int)), some (vi (j : Int)), some (vi (n : Int)), some (vi (q : Int)), some (vi (if m % 2 = 0 then 1 else 0)), some (vi ((7 ^ (N - m) / 7 : Nat) : Int)), none, none] [] (MM sc (up2 I 47 0 s) J) Q
  | 0, m, s, e, h => by
    have e1 : m = N := by omega
    subst e1
    have z : 7 ^ (m - m) / 7 = 0 := by rw [Nat.sub_self]
    rw [z, b_D_duel_64, if_pos (by decide)]
    exact hQ s _ h
  | r + 1, m, s, e, h => by
    have hm : m < N := by omega
    have b1 := p7_1 (N - (m + 1))
    have b2 := p7_le (show N - (m + 1) ≤ 4 by omega)
    have dq := dqN (b := 7 ^ (N - (m + 1))) (show q ≤ 100000 by omega)
    have wd := wd7 (q := 7 ^ (N - (m + 1))) (by omega)
    have q7 : 0 ≤ ((q / 7 ^ (N - (m + 1)) % 7 : Nat) : Int) ∧ ((q / 7 ^ (N - (m + 1)) % 7 : Nat) : Int) ≤ 6 := by omega
    have s0 := h.2.2
    have sx : 0 ≤ s 0 ∧ s 0 ≤ 1000 := by omega
    have nz1 : ¬ ((7 ^ (N - (m + 1)) : Nat) : Int) ≤ 0 := by omega
    have nz2 : ¬ ((7 ^ (N - (m + 1)) : Nat) : Int) = 0 := by omega
    rw [p7_div hm, b_D_duel_64, if_neg nz1, b_D_duel_69]
    by_cases e2 : m % 2 = 0
    · have ih := l_D_dl (n := n) hi hj hij ki kj hN hq hn hQ r (m + 1) _ (by omega) (dK_i hi hj hij hm e2 h)
      rw [if_neg (show ¬ (m + 1) % 2 = 0 by omega)] at ih
      rw [if_pos e2, if_neg (by decide), b_D_duel_79, b_D_duel_84, and_iff_right nz2, dq, b_D_duel_89, wm7, s_D_crN hi ki.1 ki.2 q7.1 q7.2 h.1.2.1 sx.1 sx.2 h.1.2.2, ap_s, b_D_duel_95, if_neg (by decide), b_D_duel_105, b_D_duel_106, wd]
      exact ih
    · have ih := l_D_dl (n := n) hi hj hij ki kj hN hq hn hQ r (m + 1) _ (by omega) (dK_j hi hj hij hm (by omega) h)
      rw [if_pos (show (m + 1) % 2 = 0 by omega)] at ih
      rw [if_neg e2, if_pos rfl, b_D_duel_83, b_D_duel_84, and_iff_right nz2, dq, b_D_duel_89, wm7, s_D_crN hj kj.1 kj.2 q7.1 q7.2 h.2.1.2.1 sx.1 sx.2 h.2.1.2.2, ap_s, b_D_duel_95, if_pos rfl, b_D_duel_101, b_D_duel_106, wd]
      exact ih
theorem wk1 {W s : Nat → Int} {q : Nat} {v : Int} : upI (up2 (up2 I 63 0 W) 47 0 s) 63 0 q v = up2 (up2 I 63 0 (upF W q v)) 47 0 s := by
  funext t i p
  simp only [rd_up, rd_up2, upF]
  by_cases h : t = 63 ∧ i = 0
  · obtain ⟨a, b⟩ := h
    subst a b
    by_cases hp : p = q
    · simp [hp]
    · simp [hp]
  · by_cases h2 : t = 47 ∧ i = 0
    · obtain ⟨a, b⟩ := h2
      subst a b
      simp
    · rw [if_neg (fun z => h ⟨z.1, z.2.1⟩), if_neg h2, if_neg h2, if_neg h, if_neg h]
theorem wk2 {W s : Nat → Int} : up2 (up2 I 63 0 W) 47 0 s = up2 (up2 I 47 0 s) 63 0 W := by
  funext t i p
  simp only [rd_up2]
  by_cases h : t = 63 ∧ i = 0
  · rw [if_pos h, if_pos h, if_neg (by omega)]
  · rw [if_neg h, if_neg h]
theorem l_D_dc {i j n N : Nat} (hi : i < 6) (hj : j < 6) (hij : i ≠ j) (ki : 0 ≤ I 45 0 i ∧ I 45 0 i ≤ 5) (kj : 0 ≤ I 45 0 j ∧ I 45 0 j ≤ 5) (di : dg3 (I 46 0) i) (dj : dg3 (I 46 0) j) (bi : I 46 0 (19 + i) = 0 ∨ I 46 0 (19 + i) = 1) (bj : I 46 0 (19 + j) = 0 ∨ I 46 0 (19 + j) = 1) (hn : 0 ≤ I 46 0 0 ∧ I 46 0 0 ≤ 900) (hN : N = 2 * n) (hn2 : n ≤ 2)
    (hQ : ∀ (W s : Nat → Int) (o5 o6 : Option AV), (∀ c, c < 7 ^ N → W c = duV (I 45 0 i) (I 45 0 j) (lf3 (I 46 0) i) (lf3 (I 46 0) j) (I 46 0 0) n N c) → X (d + 3) m_D_duel 148 [some (vr 39 0), some (vi (i : Int)), some (vi (j : Int)), some (vi (n : Int)), some (vi ((7 ^ N : Nat) : Int)), o5, o6, none, none] [] (MM sc (up2 (up2 I 63 0 W) 47 0 s) J) Q) : ∀ (r q : Nat) (W s : Nat → Int) (o5 o6 : Option AV), q + r = 7 ^ N → (∀ c, c < q → W c = duV (I 45 0 i) (I 45 0 j) (lf3 (I 46 0) i) (lf3 (I 46 0) j) (I 46 0 0) n N c) → X (d + 3) m_D_duel 35 [some (vr 39 0), some (vi (i : Int)), some (vi (j : Int)), some (vi (n : Int)), some (vi (q : Int)), o5, o6, none, none] [] (MM sc (up2 (up2 I 63 0 W) 47 0 s) J) Q
  | 0, q, W, s, o5, o6, e, h => by
    have e1 : q = 7 ^ N := by omega
    subst e1
    have w2 : w32 (2 * (n : Int)) = ((N : Nat) : Int) := by rw [w32_eq (by omega) (by omega)]; omega
    rw [b_D_duel_35, w2, s_D_codesOf (by omega), ap_s, b_D_duel_43, if_pos (Int.le_refl _)]
    exact hQ W s o5 o6 h
  | r + 1, q, W, s, o5, o6, e, h => by
    have eqr : q + 1 + r = 7 ^ N := by omega
    have w2 : w32 (2 * (n : Int)) = ((N : Nat) : Int) := by rw [w32_eq (by omega) (by omega)]; omega
    have N4 : N ≤ 4 := by omega
    have pl := p7_le N4
    have wd := wd7 (q := 7 ^ N) (by omega)
    have q4 : q ≤ 2400 := by omega
    have nwi := nw_ok (I := up2 I 63 0 W) (s := s) hi di
    have nwj := nw_ok (I := up2 I 63 0 W) (s := s) hj dj
    have n0 : nwS (up2 I 63 0 W) s 0 = I 46 0 0 + ((0 : Nat) : Int) := by rw [nwi.2.2.1]; show I 46 0 0 = I 46 0 0 + ((0 : Nat) : Int); omega
    rw [b_D_duel_35, w2, s_D_codesOf N4, ap_s, b_D_duel_43, if_neg (by omega), b_D_duel_46, s_D_asItIs, ap_n, b_D_duel_53, w2, s_D_codesOf N4, ap_s, b_D_duel_59, wd]
    refine l_D_dl (I := up2 I 63 0 W) (n := n) (N := N) (Li := lf3 (I 46 0) i) (Lj := lf3 (I 46 0) j) hi hj hij ki kj N4 q4 hn (fun s' x5 h' => ?_) N 0 (nwS (up2 I 63 0 W) s) (by omega) ⟨⟨nwi.1, nwi.2.1, by rw [nwi.2.2.2]; exact bi⟩, ⟨nwj.1, nwj.2.1, by rw [nwj.2.2.2]; exact bj⟩, n0⟩
    obtain ⟨⟨a1, a2, a3⟩, ⟨b1, b2, b3⟩, c⟩ := h'
    rw [Nat.sub_self, Nat.pow_zero, Nat.div_one] at a1 b1
    have ti := tgx (dA_in (k := I 45 0 i) (n := I 46 0 0) (e := 0) (lf3_in di) N q)
    have tj := tgx (dA_in (k := I 45 0 j) (n := I 46 0 0) (e := 1) (lf3_in dj) N q)
    have lf := duV_leaf (ki := I 45 0 i) (kj := I 45 0 j) (Li := lf3 (I 46 0) i) (Lj := lf3 (I 46 0) j) (n0 := I 46 0 0) (n := n) (q := q)
    rw [← hN] at lf
    have qd : 0 ≤ (q : Int) ∧ (q : Int) < 2401 := by omega
    have ws := wsuc (k := q) (by omega)
    rw [b_D_duel_118, s_D_togetherOf (t := 47) (fun _ _ => rfl) hi (by rw [up2_same]; exact a2), up2_same, a1, ap_s, b_D_duel_132, s_D_togetherOf (t := 47) (fun _ _ => rfl) hj (by rw [up2_same]; exact b2), up2_same, b1, ap_s, b_D_duel_140, and_iff_right qd, Int.toNat_natCast, wk1, b_D_duel_142, ws]
    have ev : w32 (tg (dA (up2 I 63 0 W 45 0 i) (lf3 (I 46 0) i) (I 46 0 0) 0 N q) - tg (dA (up2 I 63 0 W 45 0 j) (lf3 (I 46 0) j) (I 46 0 0) 1 N q)) = duV (I 45 0 i) (I 45 0 j) (lf3 (I 46 0) i) (lf3 (I 46 0) j) (I 46 0 0) n N q := by
      show w32 (tg (dA (I 45 0 i) (lf3 (I 46 0) i) (I 46 0 0) 0 N q) - tg (dA (I 45 0 j) (lf3 (I 46 0) j) (I 46 0 0) 1 N q)) = _
      rw [lf]
      exact w32_eq (by omega) (by omega)
    rw [ev]
    refine l_D_dc hi hj hij ki kj di dj bi bj hn hN hn2 hQ r (q + 1) _ s' _ _ eqr (fun c hc => ?_)
    by_cases z : c = q
    · subst z
      exact if_pos rfl
    · exact (if_neg z).trans (h c (Nat.lt_of_le_of_ne (Nat.le_of_lt_succ hc) z))
theorem l_D_db {i j n k q : Nat} (hq : 7 * q + 6 < 2401) (hQ : ∀ o8 : Option AV, X d m_D_duel 252 [some (vr 39 0), some (vi (i : Int)), some (vi (j : Int)), some (vi (n : Int)), some (vi (k : Int)), some (vi (q : Int)), some (vi (bst k (fun c => I 63 0 (7 * q + c)) 6)), some (vi 7), o8] [] (MM sc I J) Q) : ∀ (m c : Nat) (o8 : Option AV), c + m = 6 → X d m_D_duel 188 [some (vr 39 0), some (vi (i : Int)), some (vi (j : Int)), some (vi (n : Int)), some (vi (k : Int)), some (vi (q : Int)), some (vi (bst k (fun c => I 63 0 (7 * q + c)) c)), some (vi ((c + 1 : Nat) : Int)), o8] [] (MM sc I J) Q
  | 0, c, o8, e => by
    have e1 : c = 6 := by omega
    subst e1
    rw [b_D_duel_188, if_pos (by decide)]
    exact hQ o8
  | m + 1, c, o8, e => by
    have ih := fun o8 => l_D_db (i := i) (j := j) (n := n) hq hQ m (c + 1) o8 (by omega)
    have e7 : w32 (w32 (7 * (q : Int)) + ((c + 1 : Nat) : Int)) = ((7 * q + (c + 1) : Nat) : Int) := by rw [w32_eq (x := 7 * (q : Int)) (by omega) (by omega), w32_eq (by omega) (by omega)]; omega
    have ws := wsuc (k := c + 1) (by omega)
    have l7 : ¬ 7 ≤ ((c + 1 : Nat) : Int) := by omega
    have ix : 0 ≤ ((7 * q + (c + 1) : Nat) : Int) ∧ ((7 * q + (c + 1) : Nat) : Int) < 2401 := by omega
    have tm : ((k : Int).tmod 2 = 0) = (k % 2 = 0) := by rw [tm_eq (by omega)]; exact propext ⟨fun z => by omega, fun z => by omega⟩
    have bs1 : bst k (fun c => I 63 0 (7 * q + c)) (c + 1) = if k % 2 = 0 then (if bst k (fun c => I 63 0 (7 * q + c)) c < I 63 0 (7 * q + (c + 1)) then I 63 0 (7 * q + (c + 1)) else bst k (fun c => I 63 0 (7 * q + c)) c) else (if bst k (fun c => I 63 0 (7 * q + c)) c < I 63 0 (7 * q + (c + 1)) then bst k (fun c => I 63 0 (7 * q + c)) c else I 63 0 (7 * q + (c + 1))) := rfl
    rw [bs1] at ih
    generalize bst k (fun c => I 63 0 (7 * q + c)) c = B at *
    generalize hv : I 63 0 (7 * q + (c + 1)) = v at *
    rw [b_D_duel_188, if_neg l7, b_D_duel_195, e7, and_iff_right ix, Int.toNat_natCast, hv, b_D_duel_208]
    simp only [tm]
    by_cases p : k % 2 = 0
    · simp only [p, if_true] at ih ⊢
      by_cases y : B < v
      · rw [if_pos y] at ih
        rw [b_D_duel_217, b_D_duel_222, if_neg (by omega), b_D_duel_229, b_D_duel_234, if_pos rfl, b_D_duel_237, b_D_duel_244, ws]
        exact ih _
      · rw [if_neg y] at ih
        rw [b_D_duel_217, b_D_duel_222, if_pos (by omega), b_D_duel_233, b_D_duel_234, if_neg (by decide), b_D_duel_242, b_D_duel_244, ws]
        exact ih _
    · simp only [p, if_false] at ih ⊢
      by_cases y : B < v
      · rw [if_pos y] at ih
        rw [b_D_duel_221, b_D_duel_222, if_neg (by omega), b_D_duel_229, b_D_duel_234, if_neg (by decide), b_D_duel_242, b_D_duel_244, ws]
        exact ih _
      · rw [if_neg y] at ih
        rw [b_D_duel_221, b_D_duel_222, if_pos (by omega), b_D_duel_233, b_D_duel_234, if_pos rfl, b_D_duel_237, b_D_duel_244, ws]
        exact ih _
end DV
