/-! BOATS: sets as numbers below 64 -/
def sd (a b : Nat) : Nat := a &&& (63 ^^^ b)
def lb (a : Nat) : Nat := a &&& (128 - a)
def pcT (a : Nat) : Nat := a % 2 + a / 2 % 2 + a / 4 % 2 + a / 8 % 2 + a / 16 % 2 + a / 32 % 2
theorem sd_dec : ∀ a b : _root_.Fin 64, i_and (a.val : Int) (i_xor (b.val : Int) (-1)) = ((sd a.val b.val : Nat) : Int) ∧ sd a.val b.val < 64 ∧ sd a.val b.val ≤ a.val := by decide +kernel
theorem lb_dec : ∀ a : _root_.Fin 64, i_and (a.val : Int) (w32 (-(a.val : Int))) = ((lb a.val : Nat) : Int) ∧ (a.val ≠ 0 → lb a.val ≠ 0 ∧ lb a.val &&& a.val = lb a.val ∧ lb a.val &&& lb a.val ≠ 0 ∧ lb a.val < 64 ∧ pcT (sd a.val (lb a.val)) + 1 = pcT a.val) ∧ pcT a.val ≤ 6 := by decide +kernel
theorem an_dec : ∀ a b : _root_.Fin 64, i_and (a.val : Int) (b.val : Int) = ((a.val &&& b.val : Nat) : Int) := by decide +kernel
theorem sb_dec : ∀ a b : _root_.Fin 64, (sd a.val b.val = 0 ↔ a.val &&& b.val = a.val) ∧ (a.val &&& b.val = a.val → a.val ≠ 0 → a.val ≤ b.val ∧ sd b.val a.val < b.val) ∧ (a.val &&& b.val = a.val → a.val &&& lb b.val = 0 → lb (sd b.val a.val) = lb b.val) ∧ (a.val &&& (63 ^^^ b.val) = a.val → b.val &&& (63 ^^^ a.val) = b.val) := by decide +kernel
section BO
variable {a b : Nat} (ha : a < 64) (hb : b < 64)
theorem sd_i : i_and (a : Int) (i_xor (b : Int) (-1)) = ((sd a b : Nat) : Int) := (sd_dec ⟨a, ha⟩ ⟨b, hb⟩).1
theorem sd_lt : sd a b < 64 := (sd_dec ⟨a, ha⟩ ⟨b, hb⟩).2.1
theorem an_i : i_and (a : Int) (b : Int) = ((a &&& b : Nat) : Int) := an_dec ⟨a, ha⟩ ⟨b, hb⟩
theorem sb_i : sd a b = 0 ↔ a &&& b = a := (sb_dec ⟨a, ha⟩ ⟨b, hb⟩).1
theorem sb_lt (h : a &&& b = a) (h0 : a ≠ 0) : a ≤ b ∧ sd b a < b := (sb_dec ⟨a, ha⟩ ⟨b, hb⟩).2.1 h h0
theorem sb_lb (h : a &&& b = a) (h0 : a &&& lb b = 0) : lb (sd b a) = lb b := (sb_dec ⟨a, ha⟩ ⟨b, hb⟩).2.2.1 h h0
theorem sb_dis (h : a &&& (63 ^^^ b) = a) : b &&& (63 ^^^ a) = b := (sb_dec ⟨a, ha⟩ ⟨b, hb⟩).2.2.2 h
end BO
theorem sd_comm (s a b : Nat) : sd (sd s a) b = sd (sd s b) a := by
  unfold sd
  rw [Nat.land_assoc, Nat.land_assoc, Nat.land_comm (63 ^^^ a)]
/-- a boat in the rest is a boat in the whole -/
theorem sub_of {s a b : Nat} (h : b &&& sd s a = b) : b &&& s = b ∧ b &&& (63 ^^^ a) = b := by
  unfold sd at h
  constructor
  · calc b &&& s = (b &&& (s &&& (63 ^^^ a))) &&& s := by rw [h]
      _ = b &&& (s &&& (63 ^^^ a)) := by rw [Nat.land_assoc, Nat.land_comm s (63 ^^^ a), Nat.land_assoc (63 ^^^ a), Nat.land_self]
      _ = b := h
  · calc b &&& (63 ^^^ a) = (b &&& (s &&& (63 ^^^ a))) &&& (63 ^^^ a) := by rw [h]
      _ = b &&& (s &&& (63 ^^^ a)) := by rw [Nat.land_assoc, Nat.land_assoc s, Nat.land_self]
      _ = b := h
/-- what a table of fewest boats is: v over valid boats, at most u -/
def mnB (P : Nat → Prop) (g : Nat → Int) (u v : Int) (m : Nat) : Prop := v ≤ u ∧ (∀ b, 1 ≤ b → b < m → P b → v ≤ g b) ∧ (v = u ∨ ∃ b, 1 ≤ b ∧ b < m ∧ P b ∧ v = g b)
theorem mn_0 (P : Nat → Prop) (g : Nat → Int) (u : Int) : mnB P g u u 1 := ⟨Int.le_refl _, fun b h1 h2 => by omega, Or.inl rfl⟩
theorem mn_no {P : Nat → Prop} {g : Nat → Int} {u v : Int} {m : Nat} (h : mnB P g u v m) (hp : ¬ P m) : mnB P g u v (m + 1) := by
  obtain ⟨h1, h2, h3⟩ := h
  refine ⟨h1, fun b a1 a2 a3 => ?_, ?_⟩
  · by_cases e : b = m
    · subst e; exact absurd a3 hp
    · exact h2 b a1 (by omega) a3
  · rcases h3 with h3 | ⟨b, b1, b2, b3, b4⟩
    · exact Or.inl h3
    · exact Or.inr ⟨b, b1, by omega, b3, b4⟩
theorem mn_yes {P : Nat → Prop} {g : Nat → Int} {u v : Int} {m : Nat} (hm : 1 ≤ m) (h : mnB P g u v m) (hp : P m) : mnB P g u (if g m < v then g m else v) (m + 1) := by
  obtain ⟨h1, h2, h3⟩ := h
  by_cases z : g m < v
  · rw [if_pos z]
    refine ⟨by omega, fun b a1 a2 a3 => ?_, Or.inr ⟨m, hm, by omega, hp, rfl⟩⟩
    by_cases e : b = m
    · subst e; exact Int.le_refl _
    · have := h2 b a1 (by omega) a3
      omega
  · rw [if_neg z]
    refine ⟨h1, fun b a1 a2 a3 => ?_, ?_⟩
    · by_cases e : b = m
      · subst e; omega
      · exact h2 b a1 (by omega) a3
    · rcases h3 with h3 | ⟨b, b1, b2, b3, b4⟩
      · exact Or.inl h3
      · exact Or.inr ⟨b, b1, by omega, b3, b4⟩
