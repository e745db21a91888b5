/-! BOATS: sets as numbers below 64 -/
def sd (a b : Nat) : Nat := a &&& (63 ^^^ b)
def lb (a : Nat) : Nat := a &&& (128 - a)
def pcT (a : Nat) : Nat := a % 2 + a / 2 % 2 + a / 4 % 2 + a / 8 % 2 + a / 16 % 2 + a / 32 % 2
theorem sd_dec : ∀ a b : _root_.Fin 64, i_and (a.val : Int) (i_xor (b.val : Int) (-1)) = ((sd a.val b.val : Nat) : Int) ∧ sd a.val b.val < 64 ∧ sd a.val b.val ≤ a.val := by decide +kernel
theorem lb_dec : ∀ a : _root_.Fin 64, i_and (a.val : Int) (w32 (-(a.val : Int))) = ((lb a.val : Nat) : Int) ∧ (a.val ≠ 0 → lb a.val ≠ 0 ∧ lb a.val &&& a.val = lb a.val ∧ lb a.val &&& lb a.val ≠ 0 ∧ lb a.val < 64 ∧ pcT (sd a.val (lb a.val)) + 1 = pcT a.val) ∧ pcT a.val ≤ 6 := by decide +kernel
theorem an_dec : ∀ a b : _root_.Fin 64, i_and (a.val : Int) (b.val : Int) = ((a.val &&& b.val : Nat) : Int) := by decide +kernel
theorem sbt_dec : ∀ a b : _root_.Fin 64, (sd a.val b.val = 0 ↔ a.val &&& b.val = a.val) ∧ (a.val &&& b.val = a.val → a.val ≠ 0 → a.val ≤ b.val ∧ sd b.val a.val < b.val) ∧ (a.val &&& b.val = a.val → a.val &&& lb b.val = 0 → lb (sd b.val a.val) = lb b.val) ∧ (a.val &&& (63 ^^^ b.val) = a.val → b.val &&& (63 ^^^ a.val) = b.val) := by decide +kernel
theorem sd_i {a b : Nat} (ha : a < 64) (hb : b < 64) : i_and (a : Int) (i_xor (b : Int) (-1)) = ((sd a b : Nat) : Int) := (sd_dec ⟨a, ha⟩ ⟨b, hb⟩).1
theorem sd_lt {a b : Nat} (ha : a < 64) (hb : b < 64) : sd a b < 64 := (sd_dec ⟨a, ha⟩ ⟨b, hb⟩).2.1
theorem sd_le {a b : Nat} (ha : a < 64) (hb : b < 64) : sd a b ≤ a := (sd_dec ⟨a, ha⟩ ⟨b, hb⟩).2.2
theorem an_i {a b : Nat} (ha : a < 64) (hb : b < 64) : i_and (a : Int) (b : Int) = ((a &&& b : Nat) : Int) := an_dec ⟨a, ha⟩ ⟨b, hb⟩
theorem sb_i {a b : Nat} (ha : a < 64) (hb : b < 64) : sd a b = 0 ↔ a &&& b = a := (sbt_dec ⟨a, ha⟩ ⟨b, hb⟩).1
theorem sb_lt {a b : Nat} (ha : a < 64) (hb : b < 64) (h : a &&& b = a) (h0 : a ≠ 0) : a ≤ b ∧ sd b a < b := (sbt_dec ⟨a, ha⟩ ⟨b, hb⟩).2.1 h h0
theorem sb_lb {a b : Nat} (ha : a < 64) (hb : b < 64) (h : a &&& b = a) (h0 : a &&& lb b = 0) : lb (sd b a) = lb b := (sbt_dec ⟨a, ha⟩ ⟨b, hb⟩).2.2.1 h h0
theorem sb_dis {a b : Nat} (ha : a < 64) (hb : b < 64) (h : a &&& (63 ^^^ b) = a) : b &&& (63 ^^^ a) = b := (sbt_dec ⟨a, ha⟩ ⟨b, hb⟩).2.2.2 h
theorem lb_i {a : Nat} (ha : a < 64) : i_and (a : Int) (w32 (-(a : Int))) = ((lb a : Nat) : Int) := (lb_dec ⟨a, ha⟩).1
theorem lb_p {a : Nat} (ha : a < 64) (h0 : a ≠ 0) : lb a ≠ 0 ∧ lb a &&& a = lb a ∧ lb a &&& lb a ≠ 0 ∧ lb a < 64 ∧ pcT (sd a (lb a)) + 1 = pcT a := (lb_dec ⟨a, ha⟩).2.1 h0
theorem pc_le {a : Nat} (ha : a < 64) : pcT a ≤ 6 := (lb_dec ⟨a, ha⟩).2.2
theorem sd_comm (s a b : Nat) : sd (sd s a) b = sd (sd s b) a := by
  unfold sd
  rw [Nat.and_assoc, Nat.and_assoc, Nat.and_comm (63 ^^^ a)]
/-- a boat in the rest is a boat in the whole -/
theorem sub_of {s a b : Nat} (h : b &&& sd s a = b) : b &&& s = b ∧ b &&& (63 ^^^ a) = b := by
  unfold sd at h
  constructor
  · calc b &&& s = (b &&& (s &&& (63 ^^^ a))) &&& s := by rw [h]
      _ = b &&& (s &&& (63 ^^^ a)) := by rw [Nat.and_assoc, Nat.and_comm s (63 ^^^ a), Nat.and_assoc (63 ^^^ a), Nat.and_self]
      _ = b := h
  · calc b &&& (63 ^^^ a) = (b &&& (s &&& (63 ^^^ a))) &&& (63 ^^^ a) := by rw [h]
      _ = b &&& (s &&& (63 ^^^ a)) := by rw [Nat.and_assoc, Nat.and_assoc s, Nat.and_self]
      _ = b := h
/-- what a table of fewest boats is: v over valid boats, at most u -/
def mnB (P : Nat → Prop) (g : Nat → Int) (u v : Int) (m : Nat) : Prop := v ≤ u ∧ (∀ b, 1 ≤ b → b < m → P b → v ≤ g b) ∧ (v = u ∨ ∃ b, 1 ≤ b ∧ b < m ∧ P b ∧ v = g b)
theorem mn_0 (P : Nat → Prop) (g : Nat → Int) (u : Int) : mnB P g u u 1 := ⟨Int.le_refl _, fun b h1 h2 => by omega, Or.inl rfl⟩
theorem mn_no {P : Nat → Prop} {g : Nat → Int} {u v : Int} {m : Nat} (h : mnB P g u v m) (hp : ¬ P m) : mnB P g u v (m + 1) := by
  obtain ⟨h1, h2, h3⟩ := h
  refine ⟨h1, fun b a1 a2 a3 => ?_, ?_⟩
  · by_cases e : b = m
    · subst e; exact absurd a3 hp
    · exact h2 b a1 (by omega) a3
  · rcases h3 with h3 | ⟨b, b1, b2, b3, b4⟩
    · exact Or.inl h3
    · exact Or.inr ⟨b, b1, by omega, b3, b4⟩
theorem mn_yes {P : Nat → Prop} {g : Nat → Int} {u v : Int} {m : Nat} (hm : 1 ≤ m) (h : mnB P g u v m) (hp : P m) : mnB P g u (if g m < v then g m else v) (m + 1) := by
  obtain ⟨h1, h2, h3⟩ := h
  by_cases z : g m < v
  · rw [if_pos z]
    refine ⟨by omega, fun b a1 a2 a3 => ?_, Or.inr ⟨m, hm, by omega, hp, rfl⟩⟩
    by_cases e : b = m
    · subst e; exact Int.le_refl _
    · have := h2 b a1 (by omega) a3
      omega
  · rw [if_neg z]
    refine ⟨h1, fun b a1 a2 a3 => ?_, ?_⟩
    · by_cases e : b = m
      · subst e; omega
      · exact h2 b a1 (by omega) a3
    · rcases h3 with h3 | ⟨b, b1, b2, b3, b4⟩
      · exact Or.inl h3
      · exact Or.inr ⟨b, b1, by omega, b3, b4⟩

theorem mn_cg {P : Nat → Prop} {g g' : Nat → Int} {u v : Int} {m : Nat} (h : mnB P g u v m) (e : ∀ b, 1 ≤ b → b < m → P b → g b = g' b) : mnB P g' u v m := by
  obtain ⟨h1, h2, h3⟩ := h
  refine ⟨h1, fun b a1 a2 a3 => ?_, ?_⟩
  · rw [← e b a1 a2 a3]; exact h2 b a1 a2 a3
  · rcases h3 with h3 | ⟨b, b1, b2, b3, b4⟩
    · exact Or.inl h3
    · exact Or.inr ⟨b, b1, b2, b3, by rw [← e b b1 b2 b3]; exact b4⟩
theorem mn_le {P : Nat → Prop} {g : Nat → Int} {u v v' : Int} {m : Nat} (h : mnB P g u v m) (h' : mnB P g u v' m) : v ≤ v' := by
  obtain ⟨h1, h2, h3⟩ := h
  obtain ⟨k1, k2, k3⟩ := h'
  rcases k3 with k3 | ⟨b, b1, b2, b3, b4⟩
  · omega
  · rw [b4]; exact h2 b b1 b2 b3
theorem mn_un {P : Nat → Prop} {g : Nat → Int} {u v v' : Int} {m : Nat} (h : mnB P g u v m) (h' : mnB P g u v' m) : v = v' := Int.le_antisymm (mn_le h h') (mn_le h' h)
theorem mn_ex (P : Nat → Prop) (g : Nat → Int) (u : Int) : ∀ m : Nat, ∃ v, mnB P g u v (m + 1)
  | 0 => ⟨u, mn_0 P g u⟩
  | m + 1 => by
    obtain ⟨v, h⟩ := mn_ex P g u m
    by_cases hp : P (m + 1)
    · exact ⟨_, mn_yes (by omega) h hp⟩
    · exact ⟨v, mn_no h hp⟩
def tbB (P : Nat → Nat → Prop) (u : Int) (T : Nat → Int) (N : Nat) : Prop := T 0 = 0 ∧ ∀ s, 1 ≤ s → s < N → mnB (P s) (fun b => T (sd s b) + 1) u (T s) (s + 1)
def sbP (P : Nat → Nat → Prop) : Prop := ∀ s b, P s b → b &&& s = b
theorem tb_step {P : Nat → Nat → Prop} {u v : Int} {T : Nat → Int} {N : Nat} (hP : sbP P) (hN : N < 64) (h1 : 1 ≤ N) (h : tbB P u T N) (hv : mnB (P N) (fun b => T (sd N b) + 1) u v (N + 1)) : tbB P u (upF T N v) (N + 1) := by
  refine ⟨?_, fun s s1 s2 => ?_⟩
  · show (if 0 = N then v else T 0) = 0
    rw [if_neg (by omega)]; exact h.1
  · by_cases e : s = N
    · subst e
      rw [show upF T s v s = v from if_pos rfl]
      refine mn_cg hv (fun b b1 b2 b3 => ?_)
      have := (sb_lt (show b < 64 by omega) hN (hP _ _ b3) (by omega)).2
      show T (sd s b) + 1 = (if sd s b = s then v else T (sd s b)) + 1
      rw [if_neg (by omega)]
    · rw [show upF T N v s = T s from if_neg e]
      refine mn_cg (h.2 s s1 (by omega)) (fun b b1 b2 b3 => ?_)
      have := sd_le (show s < 64 by omega) (show b < 64 by omega)
      show T (sd s b) + 1 = (if sd s b = N then v else T (sd s b)) + 1
      rw [if_neg (by omega)]
theorem tb_ex {P : Nat → Nat → Prop} (hP : sbP P) (u : Int) : ∀ N : Nat, N + 1 ≤ 64 → ∃ T : Nat → Int, tbB P u T (N + 1)
  | 0, _ => ⟨fun _ => 0, rfl, fun s a b => by omega⟩
  | N + 1, h => by
    obtain ⟨T, hT⟩ := tb_ex hP u N (by omega)
    obtain ⟨v, hv⟩ := mn_ex (P (N + 1)) (fun b => T (sd (N + 1) b) + 1) u (N + 1)
    exact ⟨_, tb_step hP (by omega) (by omega) hT hv⟩
theorem tb_un {P : Nat → Nat → Prop} {u : Int} (hP : sbP P) {T T' : Nat → Int} {N : Nat} (hN : N ≤ 64) (h : tbB P u T N) (h' : tbB P u T' N) : ∀ s, s < N → T s = T' s := by
  intro s
  induction s using Nat.strongRecOn with
  | _ s ih =>
    intro hs
    by_cases s0 : s = 0
    · subst s0; rw [h.1, h'.1]
    · refine mn_un (h.2 s (by omega) hs) (mn_cg (h'.2 s (by omega) hs) (fun b b1 b2 b3 => ?_))
      have := (sb_lt (show b < 64 by omega) (show s < 64 by omega) (hP _ _ b3) (by omega)).2
      show T' (sd s b) + 1 = T (sd s b) + 1
      rw [ih _ this (by omega)]
theorem tb_in {P : Nat → Nat → Prop} {u : Int} (hP : sbP P) (hu : 0 ≤ u) {T : Nat → Int} {N : Nat} (hN : N ≤ 64) (h : tbB P u T N) : ∀ s, s < N → 0 ≤ T s ∧ T s ≤ u := by
  intro s
  induction s using Nat.strongRecOn with
  | _ s ih =>
    intro hs
    by_cases s0 : s = 0
    · subst s0; rw [h.1]; omega
    · obtain ⟨a1, a2, a3⟩ := h.2 s (by omega) hs
      refine ⟨?_, a1⟩
      rcases a3 with c | ⟨b, b1, b2, b3, b4⟩
      · omega
      · have lt := (sb_lt (show b < 64 by omega) (show s < 64 by omega) (hP _ _ b3) (by omega)).2
        have q := ih _ lt (by omega)
        have b5 : T s = T (sd s b) + 1 := b4
        omega
def P1 (W : Nat → Int) (lo : Int) (s b : Nat) : Prop := b &&& lb s ≠ 0 ∧ b &&& s = b ∧ W b ≤ lo
def P2 (W : Nat → Int) (lo : Int) (s b : Nat) : Prop := b &&& s = b ∧ W b ≤ lo
theorem sbP1 {W : Nat → Int} {lo : Int} : sbP (P1 W lo) := fun _ _ h => h.2.1
theorem sbP2 {W : Nat → Int} {lo : Int} : sbP (P2 W lo) := fun _ _ h => h.1
theorem t1_pc {W T : Nat → Int} {lo : Int} {N : Nat} (hN : N ≤ 64) (h : tbB (P1 W lo) 7 T N) (hw : ∀ s, 1 ≤ s → s < N → W (lb s) ≤ lo) : ∀ s, s < N → T s ≤ pcT s := by
  intro s
  induction s using Nat.strongRecOn with
  | _ s ih =>
    intro hs
    by_cases s0 : s = 0
    · subst s0; rw [h.1]; exact Int.natCast_nonneg _
    · have L := lb_p (show s < 64 by omega) s0
      have lt := sb_lt L.2.2.2.1 (show s < 64 by omega) L.2.1 L.1
      have m : T s ≤ T (sd s (lb s)) + 1 := (h.2 s (by omega) hs).2.1 (lb s) (by omega) (by omega) ⟨L.2.2.1, L.2.1, hw s (by omega) hs⟩
      have q := ih _ lt.2 (by omega)
      have e := L.2.2.2.2
      omega
theorem t1_ex {W T : Nat → Int} {lo : Int} {N : Nat} (hN : N ≤ 64) (h : tbB (P1 W lo) 7 T N) (hw : ∀ s, 1 ≤ s → s < N → W (lb s) ≤ lo) {s : Nat} (s1 : 1 ≤ s) (hs : s < N) : ∃ b, 1 ≤ b ∧ b < s + 1 ∧ P1 W lo s b ∧ T s = T (sd s b) + 1 := by
  have q := t1_pc hN h hw s hs
  have q2 := pc_le (show s < 64 by omega)
  rcases (h.2 s s1 hs).2.2 with c | c
  · omega
  · exact c
theorem t1_any {W T : Nat → Int} {lo : Int} {N : Nat} (hN : N ≤ 64) (h : tbB (P1 W lo) 7 T N) (hw : ∀ s, 1 ≤ s → s < N → W (lb s) ≤ lo) : ∀ u, u < N → ∀ b, 1 ≤ b → b < 64 → b &&& u = b → W b ≤ lo → T u ≤ T (sd u b) + 1 := by
  intro u
  induction u using Nat.strongRecOn with
  | _ u ih =>
    intro hu b b1 b64 bu bw
    have u64 : u < 64 := by omega
    have lt := sb_lt b64 u64 bu (by omega)
    by_cases hl : b &&& lb u = 0
    · have le := sb_lb b64 u64 bu hl
      have Lu := lb_p u64 (by omega)
      have u1 : 1 ≤ sd u b := by
        by_cases z : sd u b = 0
        · rw [z] at le
          exact absurd le.symm Lu.1
        · omega
      obtain ⟨c, c1, c2, c3, c4⟩ := t1_ex hN h hw u1 (by omega)
      obtain ⟨p1, p2, p3⟩ := c3
      have c64 : c < 64 := by omega
      obtain ⟨q1, q2⟩ := sub_of p2
      have q3 := sb_dis c64 b64 q2
      have q4 : b &&& sd u c = b := by
        show b &&& (u &&& (63 ^^^ c)) = b
        rw [← Nat.and_assoc, bu, q3]
      have lc := sb_lt c64 u64 q1 (by omega)
      rw [le] at p1
      have m : T u ≤ T (sd u c) + 1 := (h.2 u (by omega) hu).2.1 c c1 (by omega) ⟨p1, q1, p3⟩
      have i := ih (sd u c) lc.2 (by omega) b b1 b64 q4 bw
      rw [sd_comm] at i
      omega
    · exact (h.2 u (by omega) hu).2.1 b b1 (by omega) ⟨hl, bu, bw⟩
theorem t12 {W T T' : Nat → Int} {lo : Int} {N : Nat} (hN : N ≤ 64) (h : tbB (P1 W lo) 7 T N) (h' : tbB (P2 W lo) 99 T' N) (hw : ∀ s, 1 ≤ s → s < N → W (lb s) ≤ lo) : ∀ s, s < N → T' s = T s := by
  intro s
  induction s using Nat.strongRecOn with
  | _ s ih =>
    intro hs
    by_cases s0 : s = 0
    · subst s0; rw [h.1, h'.1]
    · have s64 : s < 64 := by omega
      have q := t1_pc hN h hw s hs
      have q2 := pc_le s64
      refine Int.le_antisymm ?_ ?_
      · obtain ⟨b, b1, b2, b3, b4⟩ := t1_ex hN h hw (s := s) (by omega) hs
        have lt := sb_lt (show b < 64 by omega) s64 b3.2.1 (by omega)
        have m : T' s ≤ T' (sd s b) + 1 := (h'.2 s (by omega) hs).2.1 b b1 b2 ⟨b3.2.1, b3.2.2⟩
        rw [ih _ lt.2 (by omega)] at m
        omega
      · rcases (h'.2 s (by omega) hs).2.2 with c | ⟨b, b1, b2, b3, b4⟩
        · omega
        · have lt := sb_lt (show b < 64 by omega) s64 b3.1 (by omega)
          have b5 : T' s = T' (sd s b) + 1 := b4
          rw [ih _ lt.2 (by omega)] at b5
          rw [b5]
          exact t1_any hN h hw s hs b b1 (by omega) b3.1 b3.2
theorem least_of {F : Nat → Prop} : ∀ b : Nat, F b → ∃ m, F m ∧ m ≤ b ∧ ∀ k, k < m → ¬ F k := by
  intro b
  induction b using Nat.strongRecOn with
  | _ b ih =>
    intro hb
    by_cases z : ∃ k, k < b ∧ F k
    · obtain ⟨k, k1, k2⟩ := z
      obtain ⟨m, m1, m2, m3⟩ := ih k k1 k2
      exact ⟨m, m1, by omega, m3⟩
    · exact ⟨b, hb, Nat.le_refl _, fun k hk hF => z ⟨k, hk, hF⟩⟩
theorem lb_all : ∀ n : _root_.Fin 7, 1 ≤ n.val → lb (2 ^ n.val - 1) = 1 := by decide +kernel
theorem lb_pow : ∀ s : _root_.Fin 64, s.val ≠ 0 → ∃ i : _root_.Fin 6, lb s.val = 2 ^ i.val := by decide +kernel
theorem bs_pow : ∀ i j : _root_.Fin 6, bs ((2 ^ i.val : Nat) : Int) j.val = if j = i then 1 else 0 := by decide +kernel
theorem wSF_pow {K L : Nat → Int} {i : Nat} (hi : i < 6) : ∀ n : Nat, n ≤ 6 → wSF K L ((2 ^ i : Nat) : Int) n = if i < n then wtK (K i) (L i) else 0
  | 0, _ => rfl
  | n + 1, hn => by
    have b := bs_pow ⟨i, hi⟩ ⟨n, by omega⟩
    have b' : bs ((2 ^ i : Nat) : Int) n = if n = i then 1 else 0 := by
      rw [b]
      by_cases e : n = i
      · subst e; rw [if_pos rfl, if_pos rfl]
      · rw [if_neg (fun z => e (congrArg (fun q : _root_.Fin 6 => q.val) z)), if_neg e]
    unfold wSF
    rw [wSF_pow hi n (by omega), b']
    by_cases e : n = i
    · subst e
      rw [if_neg (by omega), if_pos rfl, if_pos rfl, if_pos (by omega), Int.zero_add]
    · rw [if_neg e, if_neg (show ¬ (0 : Int) = 1 by decide), Int.add_zero]
      by_cases q : i < n
      · rw [if_pos q, if_pos (by omega)]
      · rw [if_neg q, if_neg (by omega)]
theorem w_lb {K L : Nat → Int} {lo : Int} {n s : Nat} (hn : n ≤ 6) (hw : ∀ j, j < n → wtK (K j) (L j) ≤ lo) (s1 : 1 ≤ s) (hs : s < 2 ^ n) : wSF K L ((lb s : Nat) : Int) n ≤ lo := by
  have hp := pow_in hn
  have s64 : s < 64 := by omega
  obtain ⟨i, hi⟩ := lb_pow ⟨s, s64⟩ (by show s ≠ 0; omega)
  have hi' : lb s = 2 ^ i.val := hi
  have L := lb_p s64 (by omega)
  have le := (sb_lt L.2.2.2.1 s64 L.2.1 L.1).1
  have il : i.val < n := by
    by_cases z : i.val < n
    · exact z
    · have := Nat.pow_le_pow_right (show 0 < 2 by decide) (show n ≤ i.val by omega)
      omega
  rw [hi', wSF_pow i.isLt n hn, if_pos il]
  exact hw _ il
