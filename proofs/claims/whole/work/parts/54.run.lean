/-! ROWS THAT ARE ASKED, CROSSINGS ASIDE: run -/
def OpW (M1 M2 : Nat) (l1 l2 : ALs) (sc : SC) (I J : TI) : Prop := ∃ (v : Int) (P : TI → TI → Prop), (∀ d Q, (∀ I1 J1, P I1 J1 → Q (some (vi v)) (MM sc I1 J1)) → X (d + 20) M1 0 l1 [] (MM sc I J) Q) ∧ (∀ I1 J1, P I1 J1 → ∀ d Q, (∀ I2 J2, Inv I2 J2 → Q (some (vi v)) (MM sc I2 J2)) → X (d + 20) M2 0 l2 [] (MM sc I1 J1) Q)
theorem opW_I {M1 M2 : Nat} {l1 l2 : ALs} {sc : SC} {I J : TI} (h : OpI M1 M2 l1 l2 sc I J) : OpW M1 M2 l1 l2 sc I J := by
  obtain ⟨v, I1, J1, I2, J2, h1, h2, h3⟩ := h
  refine ⟨v, fun a b => a = I1 ∧ b = J1, fun d Q hQ => h1 d Q (hQ I1 J1 ⟨rfl, rfl⟩), fun a b hab d Q hQ => ?_⟩
  rw [hab.1, hab.2]
  exact h2 d Q (hQ I2 J2 h3)
/-- a life behind j crossings, how many landed -/
def rL (k L n : Int) (f : Nat → Int) : Nat → Int
  | 0 => L
  | j + 1 => lt k (rL k L n f j) (f j) (n + j)
def rC (k L n : Int) (f : Nat → Int) : Nat → Int
  | 0 => 0
  | j + 1 => rC k L n f j + (if ld k (rL k L n f j) (f j) (n + j) = -1 then 0 else 1)
def cS (k : Int) (i : Nat) (f s : Nat → Int) : Nat → (Nat → Int)
  | 0 => s
  | j + 1 => crS k (cS k i f s j) i (f j)
theorem rC_in {k L n : Int} {f : Nat → Int} : ∀ j : Nat, 0 ≤ rC k L n f j ∧ rC k L n f j ≤ j
  | 0 => ⟨Int.le_refl _, Int.le_refl _⟩
  | j + 1 => by
    have := rC_in (k := k) (L := L) (n := n) (f := f) j
    unfold rC
    split <;> omega
theorem rL_in {k L n : Int} {f : Nat → Int} {m : Nat} (hL : 0 ≤ L ∧ L ≤ 999) (hf : ∀ j, j < m → 0 ≤ f j ∧ f j ≤ 6) : ∀ j : Nat, j ≤ m → 0 ≤ rL k L n f j ∧ rL k L n f j ≤ 999
  | 0, _ => hL
  | j + 1, hj => by
    have := rL_in (k := k) (n := n) hL hf j (by omega)
    unfold rL
    exact lt_in (hf j (by omega)).1 (hf j (by omega)).2 this.1 this.2
theorem cS_ok {k : Int} {i m : Nat} {f s : Nat → Int} (hi : i < 6) (hd : dg3 s i) (hb : s (19 + i) = 0 ∨ s (19 + i) = 1) (hf : ∀ j, j < m → 0 ≤ f j ∧ f j ≤ 6) : ∀ j : Nat, j ≤ m → lf3 (cS k i f s j) i = rL k (lf3 s i) (s 0) f j ∧ dg3 (cS k i f s j) i ∧ cS k i f s j 0 = s 0 + j ∧ cS k i f s j (19 + i) = if rC k (lf3 s i) (s 0) f j % 2 = 0 then s (19 + i) else 1 - s (19 + i)
  | 0, _ => ⟨rfl, hd, by show s 0 = s 0 + ((0 : Nat) : Int); omega, rfl⟩
  | j + 1, hj => by
    obtain ⟨a, b, c, e⟩ := cS_ok (k := k) hi hd hb hf j (by omega)
    have hfj := hf j (by omega)
    have q := crS_lf (k := k) hi b hfj.1 hfj.2
    have bk := crS_bank (k := k) (s := cS k i f s j) hi hfj.1 hfj.2
    refine ⟨?_, q.2, ?_, ?_⟩
    · show lf3 (crS k (cS k i f s j) i (f j)) i = lt k (rL k (lf3 s i) (s 0) f j) (f j) (s 0 + j)
      rw [q.1, a, c]
    · show crS k (cS k i f s j) i (f j) 0 = s 0 + ((j + 1 : Nat) : Int)
      rw [crS_0, c]
      omega
    · show crS k (cS k i f s j) i (f j) (19 + i) = if (rC k (lf3 s i) (s 0) f j + (if ld k (rL k (lf3 s i) (s 0) f j) (f j) (s 0 + j) = -1 then 0 else 1)) % 2 = 0 then s (19 + i) else 1 - s (19 + i)
      rw [bk, a, c, e]
      by_cases z : ld k (rL k (lf3 s i) (s 0) f j) (f j) (s 0 + j) = -1
      · rw [if_pos z, if_pos z, Int.add_zero]
      · rw [if_neg z, if_neg z]
        by_cases y : rC k (lf3 s i) (s 0) f j % 2 = 0
        · rw [if_pos y, if_neg (by omega)]
        · rw [if_neg y, if_pos (by omega)]
          omega
theorem cS_b {k : Int} {i m : Nat} {f s : Nat → Int} (hi : i < 6) (hd : dg3 s i) (hb : s (19 + i) = 0 ∨ s (19 + i) = 1) (hf : ∀ j, j < m → 0 ≤ f j ∧ f j ≤ 6) {j : Nat} (hj : j ≤ m) : cS k i f s j (19 + i) = 0 ∨ cS k i f s j (19 + i) = 1 := by
  rw [(cS_ok (k := k) hi hd hb hf j hj).2.2.2]
  split <;> omega
theorem rL_eq {k L n : Int} {f g : Nat → Int} : ∀ {m : Nat}, (∀ j, j < m → f j = g j) → rL k L n f m = rL k L n g m ∧ rC k L n f m = rC k L n g m
  | 0, _ => ⟨rfl, rfl⟩
  | m + 1, h => by
    have := rL_eq (k := k) (L := L) (n := n) (m := m) (fun j hj => h j (by omega))
    unfold rL rC
    rw [this.1, this.2, h m (by omega)]
    exact ⟨rfl, rfl⟩
/-- what the reference's 'now' holds when it is as it is -/
def nwS (I : TI) (s : Nat → Int) : Nat → Int := fun p => if p < 25 then I 46 0 p else s p
section RU
variable {d : Nat} {Q : Option AV → AMem → Prop} {sc : SC} {I J : TI}
theorem up2_self {t i : Nat} : up2 I t i (I t i) = I := by
  funext t' i' p
  rw [rd_up2]
  split
  · next h => rw [h.1, h.2]
  · rfl
theorem up2_2 {t i : Nat} {f g : Nat → Int} : up2 (up2 I t i f) t i g = up2 I t i g := by
  funext t' i' p
  simp only [rd_up2]
  by_cases h : t' = t ∧ i' = i
  · rw [if_pos h, if_pos h]
  · rw [if_neg h, if_neg h, if_neg h]
theorem s_D_asItIs {s : Nat → Int} : X (d + 1) m_D_asItIs 0 [some (vr 39 0)] [] (MM sc (up2 I 47 0 s) J) Q ↔ Q none (MM sc (up2 I 47 0 (nwS I s)) J) := by
  rw [b_D_asItIs_0]
  refine (s_D_bring (t0 := 46) (i0 := 0) (n0 := 25) (t2 := 47) (i2 := 0) (n2 := 25) (a := 0) (b := 0) (n := 25) (fun _ _ => rfl) (fun _ _ => rfl) (by decide) (by decide) (by decide) (by decide) (by decide)).trans ?_
  rw [ap_n, b_D_asItIs_15, show brI (up2 I 47 0 s) 46 0 0 47 0 0 25 = up2 I 47 0 (nwS I s) from ?_]
  funext t i p
  simp only [brI, rd_up2, nwS]
  by_cases h : t = 47 ∧ i = 0
  · obtain ⟨a, b⟩ := h
    subst a b
    by_cases hp : p < 25
    · simp [hp]
    · simp [hp]
  · rw [if_neg (by omega), if_neg h, if_neg h]
theorem nw_ok {s : Nat → Int} {i : Nat} (hi : i < 6) (hd : dg3 (I 46 0) i) : lf3 (nwS I s) i = lf3 (I 46 0) i ∧ dg3 (nwS I s) i ∧ nwS I s 0 = I 46 0 0 ∧ nwS I s (19 + i) = I 46 0 (19 + i) := by
  have e : ∀ p, p < 25 → nwS I s p = I 46 0 p := fun p hp => if_pos hp
  refine ⟨lf3_eq hi e, ?_, e 0 (by omega), e _ (by omega)⟩
  unfold dg3
  rw [e _ (by omega), e _ (by omega), e _ (by omega)]
  exact hd
theorem s_D_crN {s : Nat → Int} {i : Nat} {c : Int} (hi : i < 6) (hk : 0 ≤ I 45 0 i) (hk2 : I 45 0 i ≤ 5) (h1 : 0 ≤ c) (h2 : c ≤ 6) (hd : dg3 s i) (hn : 0 ≤ s 0) (hn2 : s 0 ≤ 1000) (hb : s (19 + i) = 0 ∨ s (19 + i) = 1) : X (d + 2) m_D_crosses 0 [some (vr 39 0), some (vr 47 0), some (vi (i : Int)), some (vi c), none] [] (MM sc (up2 I 47 0 s) J) Q ↔ Q (some (vi (if ld (I 45 0 i) (lf3 s i) c (s 0) = -1 then 0 else 1))) (MM sc (up2 I 47 0 (crS (I 45 0 i) s i c)) J) := by
  have := s_D_crosses (d := d) (Q := Q) (sc := sc) (I := up2 I 47 0 s) (J := J) (t := 47) (i := i) (c := c) (fun _ _ => rfl) hi hk hk2 h1 h2 hd hn hn2 hb
  rw [up2_2] at this
  exact this
theorem l_C_ref {r n : Nat} {a b lo hi : Int} (hl : n ≤ lenP r) (hs : I 28 r 1 = n) : ∀ (m k : Nat), k + m = n → (((∀ q, k ≤ q → q < n → lo ≤ I 29 r q ∧ I 29 r q ≤ hi) → (X (d + 1) m_C_refusalOfRow 38 [some (vr 0 0), some (vr 28 r), some (vi a), some (vi b), some (vi lo), some (vi hi), some (vi (k : Int))] [] (MM sc I J) Q ↔ Q (some (vi 0)) (MM sc I J))) ∧ ((¬ ∀ q, k ≤ q → q < n → lo ≤ I 29 r q ∧ I 29 r q ≤ hi) → (X (d + 1) m_C_refusalOfRow 38 [some (vr 0 0), some (vr 28 r), some (vi a), some (vi b), some (vi lo), some (vi hi), some (vi (k : Int))] [] (MM sc I J) Q ↔ Q (some (vi (-3))) (MM sc (fdC I 3) J))))
  | 0, k, e => by
    refine ⟨fun _ => ?_, fun z => absurd (fun q h1 h2 => by omega) z⟩
    rw [b_C_refusalOfRow_38, hs, if_pos (by omega), b_C_refusalOfRow_83]
  | m + 1, k, e => by
    have hle := lenP_le r
    have ih := l_C_ref (a := a) (b := b) (lo := lo) (hi := hi) hl hs m (k + 1) (by omega)
    have st : X (d + 1) m_C_refusalOfRow 38 [some (vr 0 0), some (vr 28 r), some (vi a), some (vi b), some (vi lo), some (vi hi), some (vi (k : Int))] [] (MM sc I J) Q ↔ if I 29 r k < lo then Q (some (vi (-3))) (MM sc (fdC I 3) J) else if I 29 r k ≤ hi then X (d + 1) m_C_refusalOfRow 38 [some (vr 0 0), some (vr 28 r), some (vi a), some (vi b), some (vi lo), some (vi hi), some (vi ((k + 1 : Nat) : Int))] [] (MM sc I J) Q else Q (some (vi (-3))) (MM sc (fdC I 3) J) := by
      rw [b_C_refusalOfRow_38, hs, if_neg (by omega), b_C_refusalOfRow_47, and_iff_right (by omega), Int.toNat_natCast, b_C_refusalOfRow_54, b_C_refusalOfRow_71, s_C_fd3, ap_s, b_C_refusalOfRow_76, b_C_refusalOfRow_59, and_iff_right (by omega), Int.toNat_natCast, b_C_refusalOfRow_66, b_C_refusalOfRow_71, s_C_fd3, ap_s, b_C_refusalOfRow_76, b_C_refusalOfRow_77, wsuc (by omega)]
    refine ⟨fun z => ?_, fun z => ?_⟩
    · have zk := z k (Nat.le_refl _) (by omega)
      rw [st, if_neg (by omega), if_pos (by omega)]
      exact ih.1 (fun q h1 h2 => z q (by omega) h2)
    · rw [st]
      by_cases y : I 29 r k < lo
      · rw [if_pos y]
      · rw [if_neg y]
        by_cases x : I 29 r k ≤ hi
        · rw [if_pos x]
          refine ih.2 (fun w => z (fun q h1 h2 => ?_))
          by_cases e : q = k
          · subst e; omega
          · exact w q (by omega) h2
        · rw [if_neg x]
theorem l_D_ref {r n : Nat} {a b lo hi : Int} (hr : r < 6) (hl : n ≤ 40) (hs : I 40 0 r = n) : ∀ (m k : Nat), k + m = n → (((∀ q, k ≤ q → q < n → lo ≤ I 41 0 (40 * r + q) ∧ I 41 0 (40 * r + q) ≤ hi) → (X (d + 1) m_D_rowFound 33 [some (vr 39 0), some (vi (r : Int)), some (vi a), some (vi b), some (vi lo), some (vi hi), some (vi 1), some (vi (k : Int))] [] (MM sc I J) Q ↔ Q (some (vi 0)) (MM sc I J))) ∧ ((¬ ∀ q, k ≤ q → q < n → lo ≤ I 41 0 (40 * r + q) ∧ I 41 0 (40 * r + q) ≤ hi) → (X (d + 1) m_D_rowFound 33 [some (vr 39 0), some (vi (r : Int)), some (vi a), some (vi b), some (vi lo), some (vi hi), some (vi 1), some (vi (k : Int))] [] (MM sc I J) Q ↔ Q (some (vi 3)) (MM sc I J))) ∧ (X (d + 1) m_D_rowFound 33 [some (vr 39 0), some (vi (r : Int)), some (vi a), some (vi b), some (vi lo), some (vi hi), some (vi 0), some (vi (k : Int))] [] (MM sc I J) Q ↔ Q (some (vi 3)) (MM sc I J)))
  | 0, k, e => by
    refine ⟨fun _ => ?_, fun z => absurd (fun q h1 h2 => by omega) z, ?_⟩
    · rw [b_D_rowFound_33, and_iff_right (by omega), Int.toNat_natCast, hs, b_D_rowFound_41, if_pos (by omega), b_D_rowFound_84, if_neg (by decide), b_D_rowFound_89, b_D_rowFound_94]
    · rw [b_D_rowFound_33, and_iff_right (by omega), Int.toNat_natCast, hs, b_D_rowFound_41, if_pos (by omega), b_D_rowFound_84, if_pos rfl, b_D_rowFound_93, b_D_rowFound_94]
  | m + 1, k, e => by
    have ih := l_D_ref (a := a) (b := b) (lo := lo) (hi := hi) hr hl hs m (k + 1) (by omega)
    have e1 : w32 (w32 (40 * (r : Int)) + (k : Int)) = ((40 * r + k : Nat) : Int) := by rw [w32_eq (x := 40 * (r : Int)) (by omega) (by omega), w32_eq (by omega) (by omega)]; omega
    have st : X (d + 1) m_D_rowFound 33 [some (vr 39 0), some (vi (r : Int)), some (vi a), some (vi b), some (vi lo), some (vi hi), some (vi 1), some (vi (k : Int))] [] (MM sc I J) Q ↔ X (d + 1) m_D_rowFound 33 [some (vr 39 0), some (vi (r : Int)), some (vi a), some (vi b), some (vi lo), some (vi hi), some (vi (if lo ≤ I 41 0 (40 * r + k) ∧ I 41 0 (40 * r + k) ≤ hi then 1 else 0)), some (vi ((k + 1 : Nat) : Int))] [] (MM sc I J) Q := by
      rw [b_D_rowFound_33, and_iff_right (by omega), Int.toNat_natCast, hs, b_D_rowFound_41, if_neg (by omega), b_D_rowFound_44, if_neg (by decide), b_D_rowFound_49, e1, and_iff_right (by omega), Int.toNat_natCast, b_D_rowFound_61, s_D_in, ap_s, b_D_rowFound_68, b_D_rowFound_71, b_D_rowFound_75, b_D_rowFound_76, b_D_rowFound_76, wsuc (by omega)]
      by_cases z : lo ≤ I 41 0 (40 * r + k) ∧ I 41 0 (40 * r + k) ≤ hi
      · rw [if_pos z, if_neg (by decide)]
      · rw [if_neg z, if_pos rfl]
    refine ⟨fun z => ?_, fun z => ?_, ?_⟩
    · rw [st, if_pos (z k (Nat.le_refl _) (by omega))]
      exact ih.1 (fun q h1 h2 => z q (by omega) h2)
    · rw [st]
      by_cases y : lo ≤ I 41 0 (40 * r + k) ∧ I 41 0 (40 * r + k) ≤ hi
      · rw [if_pos y]
        refine ih.2.1 (fun w => z (fun q h1 h2 => ?_))
        by_cases e : q = k
        · subst e; exact y
        · exact w q (by omega) h2
      · rw [if_neg y]
        exact ih.2.2
    · rw [b_D_rowFound_33, and_iff_right (by omega), Int.toNat_natCast, hs, b_D_rowFound_41, if_neg (by omega), b_D_rowFound_44, if_pos rfl, b_D_rowFound_75, b_D_rowFound_76, wsuc (by omega)]
      exact ih.2.2
theorem rowchk (h : Inv I J) {r : Nat} (hr : r < 6) (few most lo hi : Int) : (∃ f : Nat, 1 ≤ f ∧ f < 6 ∧ (∀ (d : Nat) (Q : Option AV → AMem → Prop) (sc : SC), X (d + 2) m_C_refusalOfRow 0 [some (vr 0 0), some (vr 28 r), some (vi few), some (vi most), some (vi lo), some (vi hi), none] [] (MM sc I J) Q ↔ Q (some (vi (-3))) (MM sc (fdC I f) J)) ∧ (∀ (d : Nat) (Q : Option AV → AMem → Prop) (sc : SC) (I' J' : TI), I' 40 = I 40 → I' 41 = I 41 → (X (d + 1) m_D_rowFound 0 [some (vr 39 0), some (vi (r : Int)), some (vi few), some (vi most), some (vi lo), some (vi hi), none, none] [] (MM sc I' J') Q ↔ Q (some (vi (f : Int))) (MM sc I' J')))) ∨
    (∃ S : Nat, I 28 r 1 = S ∧ I 40 0 r = S ∧ S ≤ 40 ∧ few ≤ S ∧ (S : Int) ≤ most ∧ (∀ q, q < S → lo ≤ I 29 r q ∧ I 29 r q ≤ hi) ∧ (∀ q, q < S → I 29 r q = I 41 0 (40 * r + q)) ∧ (∀ (d : Nat) (Q : Option AV → AMem → Prop) (sc : SC), X (d + 2) m_C_refusalOfRow 0 [some (vr 0 0), some (vr 28 r), some (vi few), some (vi most), some (vi lo), some (vi hi), none] [] (MM sc I J) Q ↔ Q (some (vi 0)) (MM sc I J)) ∧ (∀ (d : Nat) (Q : Option AV → AMem → Prop) (sc : SC) (I' J' : TI), I' 40 = I 40 → I' 41 = I 41 → (X (d + 1) m_D_rowFound 0 [some (vr 39 0), some (vi (r : Int)), some (vi few), some (vi most), some (vi lo), some (vi hi), none, none] [] (MM sc I' J') Q ↔ Q (some (vi 0)) (MM sc I' J')))) := by
  obtain ⟨k1, k2, k3, k4⟩ := h.1 r hr
  have r0 : (0 : Int) ≤ r := by omega
  have r6 : (r : Int) < 6 := by omega
  by_cases c1 : I 28 r 1 < 0
  · have d1 : ¬ 0 ≤ I 40 0 r := by omega
    refine Or.inl ⟨1, by omega, by omega, fun d Q sc => ?_, fun d Q sc I' J' e1 e2 => ?_⟩
    · simp only [b_C_refusalOfRow_0, b_C_refusalOfRow_4, b_C_refusalOfRow_7, b_C_refusalOfRow_12, s_R_isMissing, s_C_fd1, c1, i10, ap_s, ap_n, and_self, and_true, true_and, if_true, if_false, not_true_eq_false, not_false_eq_true, Int.toNat_natCast]
    · simp only [b_D_rowFound_0, b_D_rowFound_6, b_D_rowFound_9, e1, d1, r0, r6, i10, ap_s, ap_n, and_self, and_true, true_and, if_true, if_false, not_true_eq_false, not_false_eq_true, Int.toNat_natCast]
      exact Iff.rfl
  · have d1 : 0 ≤ I 40 0 r := by omega
    obtain ⟨S, hS⟩ := Int.eq_ofNat_of_zero_le (show 0 ≤ I 28 r 1 by omega)
    have hS2 : I 40 0 r = S := by omega
    have S0 : ¬ (S : Int) < 0 := by omega
    have S1 : (0 : Int) ≤ S := by omega
    have hl : S ≤ lenP r := by unfold lenP; split <;> omega
    by_cases c2 : few ≤ (S : Int) ∧ (S : Int) ≤ most
    · have f1 : ¬ (S : Int) < few := by omega
      have hD : (∀ q, q < S → lo ≤ I 29 r q ∧ I 29 r q ≤ hi) ↔ (∀ q, 0 ≤ q → q < S → lo ≤ I 41 0 (40 * r + q) ∧ I 41 0 (40 * r + q) ≤ hi) := by
        constructor
        · intro z q _ h2
          rw [← k4 q (by omega)]
          exact z q h2
        · intro z q h2
          rw [k4 q (by omega)]
          exact z q (by omega) h2
      by_cases c3 : ∀ q, q < S → lo ≤ I 29 r q ∧ I 29 r q ≤ hi
      · refine Or.inr ⟨S, hS, hS2, by omega, c2.1, c2.2, c3, fun q hq => k4 q (by omega), fun d Q sc => ?_, fun d Q sc I' J' e1 e2 => ?_⟩
        · simp only [b_C_refusalOfRow_0, b_C_refusalOfRow_4, b_C_refusalOfRow_7, b_C_refusalOfRow_12, b_C_refusalOfRow_13, b_C_refusalOfRow_21, b_C_refusalOfRow_29, b_C_refusalOfRow_34, b_C_refusalOfRow_35, s_R_isMissing, hS, S0, f1, c2.2, i10, ap_s, ap_n, and_self, and_true, true_and, if_true, if_false, not_true_eq_false, not_false_eq_true, Int.toNat_natCast]
          exact (l_C_ref hl hS S 0 (by omega)).1 (fun q _ h2 => c3 q h2)
        · simp only [b_D_rowFound_0, b_D_rowFound_6, b_D_rowFound_9, b_D_rowFound_11, b_D_rowFound_17, b_D_rowFound_22, b_D_rowFound_25, b_D_rowFound_27, s_D_in, e1, hS2, S1, c2, r0, r6, i10, ap_s, ap_n, and_self, and_true, true_and, if_true, if_false, not_true_eq_false, not_false_eq_true, Int.toNat_natCast]
          exact (l_D_ref (I := I') (n := S) hr (by omega) (by rw [e1]; exact hS2) S 0 (by omega)).1 (by rw [e2]; exact hD.mp c3)
      · refine Or.inl ⟨3, by omega, by omega, fun d Q sc => ?_, fun d Q sc I' J' e1 e2 => ?_⟩
        · simp only [b_C_refusalOfRow_0, b_C_refusalOfRow_4, b_C_refusalOfRow_7, b_C_refusalOfRow_12, b_C_refusalOfRow_13, b_C_refusalOfRow_21, b_C_refusalOfRow_29, b_C_refusalOfRow_34, b_C_refusalOfRow_35, s_R_isMissing, hS, S0, f1, c2.2, i10, ap_s, ap_n, and_self, and_true, true_and, if_true, if_false, not_true_eq_false, not_false_eq_true, Int.toNat_natCast]
          exact (l_C_ref hl hS S 0 (by omega)).2 (fun z => c3 (fun q hq => z q (by omega) hq))
        · simp only [b_D_rowFound_0, b_D_rowFound_6, b_D_rowFound_9, b_D_rowFound_11, b_D_rowFound_17, b_D_rowFound_22, b_D_rowFound_25, b_D_rowFound_27, s_D_in, e1, hS2, S1, c2, r0, r6, i10, ap_s, ap_n, and_self, and_true, true_and, if_true, if_false, not_true_eq_false, not_false_eq_true, Int.toNat_natCast]
          exact (l_D_ref (I := I') (n := S) hr (by omega) (by rw [e1]; exact hS2) S 0 (by omega)).2.1 (by rw [e2]; exact fun z => c3 (hD.mpr z))
    · refine Or.inl ⟨5, by omega, by omega, fun d Q sc => ?_, fun d Q sc I' J' e1 e2 => ?_⟩
      · simp only [b_C_refusalOfRow_0, b_C_refusalOfRow_4, b_C_refusalOfRow_7, b_C_refusalOfRow_12, b_C_refusalOfRow_13, b_C_refusalOfRow_21, b_C_refusalOfRow_29, b_C_refusalOfRow_34, b_C_refusalOfRow_35, s_R_isMissing, s_C_fd5, hS, S0, i10, ap_s, ap_n, and_self, and_true, true_and, if_true, if_false, not_true_eq_false, not_false_eq_true, Int.toNat_natCast]
        by_cases y : (S : Int) < few
        · rw [if_pos y]
        · rw [if_neg y, if_neg (by omega)]
      · simp only [b_D_rowFound_0, b_D_rowFound_6, b_D_rowFound_9, b_D_rowFound_11, b_D_rowFound_17, b_D_rowFound_22, b_D_rowFound_25, b_D_rowFound_27, s_D_in, e1, hS2, S1, c2, r0, r6, i10, ap_s, ap_n, and_self, and_true, true_and, if_true, if_false, not_true_eq_false, not_false_eq_true, Int.toNat_natCast]
        exact Iff.rfl
end RU
