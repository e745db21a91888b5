/-! CROSSINGS BY A CODE -/
def fL (k L n : Int) : Nat → Nat → Int
  | 0, _ => L
  | m + 1, q => lt k (fL k L n m (q / 7)) ((q % 7 : Nat) : Int) (n + m)
def fB (k L n b : Int) : Nat → Nat → Int
  | 0, _ => b
  | m + 1, q => if ld k (fL k L n m (q / 7)) ((q % 7 : Nat) : Int) (n + m) = -1 then fB k L n b m (q / 7) else 1 - fB k L n b m (q / 7)
theorem fL_in {k L n : Int} (hL : 0 ≤ L ∧ L ≤ 999) : ∀ m q : Nat, 0 ≤ fL k L n m q ∧ fL k L n m q ≤ 999
  | 0, _ => hL
  | m + 1, q => by
    have ih := fL_in (k := k) (n := n) hL m (q / 7)
    exact lt_in (by omega) (by omega) ih.1 ih.2
theorem fB_in {k L n b : Int} (hb : b = 0 ∨ b = 1) : ∀ m q : Nat, fB k L n b m q = 0 ∨ fB k L n b m q = 1
  | 0, _ => hb
  | m + 1, q => by
    have ih := fB_in (k := k) (L := L) (n := n) hb m (q / 7)
    unfold fB
    split <;> omega
theorem fL_c {k L n : Int} {m q c : Nat} (hc : c < 7) : fL k L n (m + 1) (7 * q + c) = lt k (fL k L n m q) (c : Int) (n + m) := by
  show lt k (fL k L n m ((7 * q + c) / 7)) (((7 * q + c) % 7 : Nat) : Int) (n + m) = _
  rw [show (7 * q + c) / 7 = q by omega, show (7 * q + c) % 7 = c by omega]
theorem fB_c {k L n b : Int} {m q c : Nat} (hc : c < 7) : fB k L n b (m + 1) (7 * q + c) = if ld k (fL k L n m q) (c : Int) (n + m) = -1 then fB k L n b m q else 1 - fB k L n b m q := by
  show (if ld k (fL k L n m ((7 * q + c) / 7)) (((7 * q + c) % 7 : Nat) : Int) (n + m) = -1 then fB k L n b m ((7 * q + c) / 7) else 1 - fB k L n b m ((7 * q + c) / 7)) = _
  rw [show (7 * q + c) / 7 = q by omega, show (7 * q + c) % 7 = c by omega]
def cK (k L n b : Int) (i N q m : Nat) (s : Nat → Int) : Prop := lf3 s i = fL k L n m (q / 7 ^ (N - m)) ∧ dg3 s i ∧ s (19 + i) = fB k L n b m (q / 7 ^ (N - m)) ∧ s 0 = n + m
theorem cK_step {k L n b : Int} {i N q m : Nat} {s : Nat → Int} (hi : i < 6) (hm : m < N) (h : cK k L n b i N q m s) : cK k L n b i N q (m + 1) (crS k s i ((q / 7 ^ (N - (m + 1)) % 7 : Nat) : Int)) := by
  obtain ⟨a1, a2, a3, c⟩ := h
  have q7 : 0 ≤ ((q / 7 ^ (N - (m + 1)) % 7 : Nat) : Int) ∧ ((q / 7 ^ (N - (m + 1)) % 7 : Nat) : Int) ≤ 6 := by omega
  have e := p7_dd q hm
  generalize hx : q / 7 ^ (N - (m + 1)) = x at *
  have cl := crS_lf (k := k) hi a2 q7.1 q7.2
  have cb := crS_bank (k := k) (s := s) hi q7.1 q7.2
  refine ⟨?_, cl.2, ?_, ?_⟩
  · rw [hx, fL, cl.1, a1, e, c]
  · rw [hx, cb, fB, a1, a3, e, c]
  · rw [crS_0, c]
    omega
/-- a figure of a code of n -/
def dgt (n q j : Nat) : Int := ((q / 7 ^ (n - 1 - j) % 7 : Nat) : Int)
section FE
variable {d : Nat} {Q : Option AV → AMem → Prop} {sc : SC} {I J : TI}
theorem l_D_cb {i N q : Nat} {L n b : Int} (hi : i < 6) (hk : 0 ≤ I 45 0 i ∧ I 45 0 i ≤ 5) (hN : N ≤ 4) (hq : q ≤ 2401) (hn : 0 ≤ n ∧ n ≤ 900) (hb : b = 0 ∨ b = 1) (hQ : ∀ s, cK (I 45 0 i) L n b i N q N s → Q none (MM sc (up2 I 47 0 s) J)) : ∀ (r m : Nat) (s : Nat → Int), m + r = N → cK (I 45 0 i) L n b i N q m s → X (d + 3) m_D_crossesBy 13 [some (vr 39 0), some (vi (i : Int)), some (vi (q : Int)), some (vi (N : Int)), some (vi ((7 ^ (N - m) / 7 : Nat) : Int))] [] (MM sc (up2 I 47 0 s) J) Q
  | 0, m, s, e, h => by
    have e1 : m = N := by omega
    subst e1
    have z : 7 ^ (m - m) / 7 = 0 := by rw [Nat.sub_self]
    rw [z, b_D_crossesBy_13, if_pos (by decide), b_D_crossesBy_45]
    exact hQ s h
  | r + 1, m, s, e, h => by
    have hm : m < N := by omega
    have b1 := p7_1 (N - (m + 1))
    have b2 := p7_le (show N - (m + 1) ≤ 4 by omega)
    have q7 : 0 ≤ ((q / 7 ^ (N - (m + 1)) % 7 : Nat) : Int) ∧ ((q / 7 ^ (N - (m + 1)) % 7 : Nat) : Int) ≤ 6 := by omega
    have s0 := h.2.2.2
    have sx : 0 ≤ s 0 ∧ s 0 ≤ 1000 := by omega
    have sb : s (19 + i) = 0 ∨ s (19 + i) = 1 := by rw [h.2.2.1]; exact fB_in hb _ _
    have nz1 : ¬ ((7 ^ (N - (m + 1)) : Nat) : Int) ≤ 0 := by omega
    have nz2 : ¬ ((7 ^ (N - (m + 1)) : Nat) : Int) = 0 := by omega
    have ih := l_D_cb hi hk hN hq hn hb hQ r (m + 1) _ (by omega) (cK_step hi hm h)
    have dq := dqN (b := 7 ^ (N - (m + 1))) (show q ≤ 100000 by omega)
    have wd := wd7 (q := 7 ^ (N - (m + 1))) (by omega)
    rw [p7_div hm, b_D_crossesBy_13, if_neg nz1, b_D_crossesBy_18, and_iff_right nz2, dq, b_D_crossesBy_28, wm7, s_D_crN hi hk.1 hk.2 q7.1 q7.2 h.2.1 sx.1 sx.2 sb, ap_s, b_D_crossesBy_34, wd]
    exact ih
theorem s_D_cb {i N q : Nat} {s : Nat → Int} (hi : i < 6) (hk : 0 ≤ I 45 0 i ∧ I 45 0 i ≤ 5) (hd : dg3 (I 46 0) i) (hb : I 46 0 (19 + i) = 0 ∨ I 46 0 (19 + i) = 1) (hn : 0 ≤ I 46 0 0 ∧ I 46 0 0 ≤ 900) (hN : N ≤ 4) (hq : q ≤ 2401) (hQ : ∀ s', lf3 s' i = fL (I 45 0 i) (lf3 (I 46 0) i) (I 46 0 0) N q → dg3 s' i → s' (19 + i) = fB (I 45 0 i) (lf3 (I 46 0) i) (I 46 0 0) (I 46 0 (19 + i)) N q → Q none (MM sc (up2 I 47 0 s') J)) : X (d + 3) m_D_crossesBy 0 [some (vr 39 0), some (vi (i : Int)), some (vi (q : Int)), some (vi (N : Int)), none] [] (MM sc (up2 I 47 0 s) J) Q := by
  have nw := nw_ok (I := I) (s := s) hi hd
  have pl := p7_le hN
  have n0 : nwS I s 0 = I 46 0 0 + ((0 : Nat) : Int) := by rw [nw.2.2.1]; omega
  have wd := wd7 (q := 7 ^ N) (by omega)
  rw [b_D_crossesBy_0, s_D_asItIs, ap_n, b_D_crossesBy_4, s_D_codesOf hN, ap_s, b_D_crossesBy_8, wd]
  refine l_D_cb (L := lf3 (I 46 0) i) (n := I 46 0 0) (b := I 46 0 (19 + i)) hi hk hN hq hn hb (fun s' h' => ?_) N 0 (nwS I s) (Nat.zero_add _) ⟨nw.1, nw.2.1, nw.2.2.2, n0⟩
  obtain ⟨a1, a2, a3, c⟩ := h'
  rw [Nat.sub_self, Nat.pow_zero, Nat.div_one] at a1 a3
  exact hQ s' a1 a2 a3
end FE
