/-! CHANCES: what a set of believed slates comes to -/
def odL (k L n : Int) (f β : Nat → Int) : Nat → Int
  | 0 => L
  | j + 1 => if β j = 0 then odL k L n f β j else lt k (odL k L n f β j) (f j) (n + j)
def oC (k L n : Int) (f β : Nat → Int) : Nat → Int
  | 0 => 0
  | j + 1 => oC k L n f β j + (if β j = 0 then 0 else if ld k (odL k L n f β j) (f j) (n + j) = -1 then 0 else 1)
def oS (p : Int) (β : Nat → Int) : Nat → Int
  | 0 => 1
  | j + 1 => oS p β j * (if β j = 0 then p else 12 - p)
def oV (z c L : Int) : Int := if z = 0 then tg L else c % 2
def sm (F : Nat → Int) : Nat → Int
  | 0 => 0
  | j + 1 => sm F j + F j
theorem odL_in {k L n : Int} {f β : Nat → Int} {m : Nat} (hL : 0 ≤ L ∧ L ≤ 999) (hf : ∀ j, j < m → 0 ≤ f j ∧ f j ≤ 6) : ∀ j : Nat, j ≤ m → 0 ≤ odL k L n f β j ∧ odL k L n f β j ≤ 999
  | 0, _ => hL
  | j + 1, hj => by
    have ih := odL_in (k := k) (n := n) (β := β) hL hf j (by omega)
    have h2 := lt_in (k := k) (n := n + j) (hf j (by omega)).1 (hf j (by omega)).2 ih.1 ih.2
    unfold odL
    split
    · exact ih
    · exact h2
theorem oC_in {k L n : Int} {f β : Nat → Int} : ∀ j : Nat, 0 ≤ oC k L n f β j ∧ oC k L n f β j ≤ j
  | 0 => ⟨Int.le_refl _, Int.le_refl _⟩
  | j + 1 => by
    have := oC_in (k := k) (L := L) (n := n) (f := f) (β := β) j
    unfold oC
    (repeat' split) <;> omega
theorem mulb {x y a b : Int} (x0 : 0 ≤ x) (xa : x ≤ a) (y0 : 0 ≤ y) (yb : y ≤ b) : 0 ≤ x * y ∧ x * y ≤ a * b := ⟨Int.mul_nonneg x0 y0, Int.mul_le_mul xa yb y0 (by omega)⟩
theorem p12 (j : Nat) : ((12 ^ (j + 1) : Nat) : Int) = ((12 ^ j : Nat) : Int) * 12 := by rw [Nat.pow_succ, Int.natCast_mul]; rfl
theorem oS_in {p : Int} {β : Nat → Int} (hp : 0 ≤ p ∧ p ≤ 12) : ∀ j : Nat, 0 ≤ oS p β j ∧ oS p β j ≤ ((12 ^ j : Nat) : Int)
  | 0 => ⟨by show (0 : Int) ≤ 1; decide, by show (1 : Int) ≤ ((12 ^ 0 : Nat) : Int); decide⟩
  | j + 1 => by
    have ih := oS_in (β := β) hp j
    have q : 0 ≤ (if β j = 0 then p else 12 - p) ∧ (if β j = 0 then p else 12 - p) ≤ 12 := by split <;> omega
    rw [p12]
    exact mulb ih.1 ih.2 q.1 q.2
theorem p12_le {j : Nat} (h : j ≤ 6) : ((12 ^ j : Nat) : Int) ≤ 2985984 := by
  have := Nat.pow_le_pow_right (show 0 < 12 by decide) h
  have e : 12 ^ 6 = 2985984 := by decide
  omega
theorem oS_b {p : Int} {β : Nat → Int} (hp : 0 ≤ p ∧ p ≤ 12) {j : Nat} (h : j ≤ 6) : 0 ≤ oS p β j ∧ oS p β j ≤ 2985984 := by
  have a := oS_in (β := β) hp j
  have b := p12_le h
  exact ⟨a.1, by omega⟩
theorem oV_in {z c L : Int} (hL : 0 ≤ L ∧ L ≤ 999) : 0 ≤ oV z c L ∧ oV z c L ≤ 27 := by
  unfold oV tg
  split <;> omega
theorem odo_eq {k L n : Int} {f g β γ : Nat → Int} : ∀ {m : Nat}, (∀ j, j < m → f j = g j) → (∀ j, j < m → β j = γ j) → odL k L n f β m = odL k L n g γ m ∧ oC k L n f β m = oC k L n g γ m
  | 0, _, _ => ⟨rfl, rfl⟩
  | m + 1, h, h2 => by
    have := odo_eq (k := k) (L := L) (n := n) (m := m) (fun j hj => h j (by omega)) (fun j hj => h2 j (by omega))
    unfold odL oC
    rw [this.1, this.2, h m (by omega), h2 m (by omega)]
    exact ⟨rfl, rfl⟩
theorem oS_eq {p : Int} {β γ : Nat → Int} : ∀ {m : Nat}, (∀ j, j < m → β j = γ j) → oS p β m = oS p γ m
  | 0, _ => rfl
  | m + 1, h => by
    unfold oS
    rw [oS_eq (m := m) (fun j hj => h j (by omega)), h m (by omega)]
theorem sm_in {F : Nat → Int} {c : Int} {N : Nat} (h : ∀ j, j < N → 0 ≤ F j ∧ F j ≤ c) : ∀ j : Nat, j ≤ N → 0 ≤ sm F j ∧ sm F j ≤ c * j
  | 0, _ => ⟨Int.le_refl _, by show (0 : Int) ≤ c * ((0 : Nat) : Int); rw [show ((0 : Nat) : Int) = 0 from rfl, Int.mul_zero]; exact Int.le_refl _⟩
  | j + 1, hj => by
    have ih := sm_in h j (by omega)
    have q := h j (by omega)
    unfold sm
    rw [show c * ((j + 1 : Nat) : Int) = c * (j : Int) + c by rw [Int.natCast_add, Int.mul_add]; simp]
    omega
theorem sm_eq {F G : Nat → Int} : ∀ {n : Nat}, (∀ j, j < n → F j = G j) → sm F n = sm G n
  | 0, _ => rfl
  | n + 1, h => by
    unfold sm
    rw [sm_eq (n := n) (fun j hj => h j (by omega)), h n (by omega)]
theorem sm_rev {F : Nat → Int} {N : Nat} : ∀ m : Nat, m ≤ N → sm (fun t => F (N - 1 - t)) m + sm F (N - m) = sm F N
  | 0, _ => by
    show 0 + sm F (N - 0) = sm F N
    rw [Nat.sub_zero, Int.zero_add]
  | m + 1, h => by
    have ih := sm_rev (F := F) (N := N) m (by omega)
    obtain ⟨q, hq⟩ : ∃ q, N - m = q + 1 := ⟨N - m - 1, by omega⟩
    rw [hq] at ih
    rw [show N - (m + 1) = q by omega]
    show sm (fun t => F (N - 1 - t)) m + F (N - 1 - m) + sm F q = sm F N
    have e : sm F (q + 1) = sm F q + F q := rfl
    rw [show N - 1 - m = q by omega]
    omega
theorem bs_rev_dec : ∀ S : _root_.Fin 7, ∀ t : _root_.Fin 64, ∀ j : _root_.Fin 6, t.val < 2 ^ S.val → j.val < S.val → 1 - bs (t.val : Int) j.val = bs ((2 ^ S.val - 1 - t.val : Nat) : Int) j.val := by decide +kernel
theorem bs_rev {S t j : Nat} (hS : S ≤ 6) (ht : t < 2 ^ S) (hj : j < S) : 1 - bs (t : Int) j = bs ((2 ^ S - 1 - t : Nat) : Int) j := by
  have := pow_in hS
  exact bs_rev_dec ⟨S, by omega⟩ ⟨t, by omega⟩ ⟨j, by omega⟩ ht hj
theorem all_dec : ∀ p : _root_.Fin 13, ∀ S : _root_.Fin 7, sm (fun t => oS (p.val : Int) (fun q => 1 - bs (t : Int) q) S.val) (2 ^ S.val) = ((12 ^ S.val : Nat) : Int) := by decide +kernel
theorem all_12 {p : Int} {S : Nat} (hp : 0 ≤ p ∧ p ≤ 12) (hS : S ≤ 6) : sm (fun t => oS p (fun q => 1 - bs (t : Int) q) S) (2 ^ S) = ((12 ^ S : Nat) : Int) := by
  obtain ⟨p, rfl⟩ := Int.eq_ofNat_of_zero_le hp.1
  exact all_dec ⟨p, by omega⟩ ⟨S, by omega⟩
def eV (k L n : Int) (f : Nat → Int) (p z : Int) (S : Nat) (b : Nat) : Int := oS p (bs (b : Int)) S * oV z (oC k L n f (bs (b : Int)) S) (odL k L n f (bs (b : Int)) S)
theorem eV_in {k L n p z : Int} {f : Nat → Int} {S b : Nat} (hL : 0 ≤ L ∧ L ≤ 999) (hp : 0 ≤ p ∧ p ≤ 12) (hS : S ≤ 6) (hf : ∀ j, j < S → 0 ≤ f j ∧ f j ≤ 6) : 0 ≤ eV k L n f p z S b ∧ eV k L n f p z S b ≤ 80621568 := by
  have a := oS_b (β := bs (b : Int)) hp hS
  have c := odL_in (k := k) (n := n) (β := bs (b : Int)) hL hf S (Nat.le_refl _)
  have e := oV_in (z := z) (c := oC k L n f (bs (b : Int)) S) c
  have m := mulb a.1 a.2 e.1 e.2
  exact ⟨m.1, m.2⟩
/-- the reference's own end of a set of those that are not believed -/
theorem eV_rev {k L n p z : Int} {f g : Nat → Int} {S t : Nat} (hS : S ≤ 6) (ht : t < 2 ^ S) (hfg : ∀ j, j < S → f j = g j) : oS p (fun q => 1 - bs (t : Int) q) S * oV z (oC k L n f (fun q => 1 - bs (t : Int) q) S) (odL k L n f (fun q => 1 - bs (t : Int) q) S) = eV k L n g p z S (2 ^ S - 1 - t) := by
  have e := odo_eq (k := k) (L := L) (n := n) (f := f) (g := g) (β := fun q => 1 - bs (t : Int) q) (γ := bs ((2 ^ S - 1 - t : Nat) : Int)) (m := S) hfg (fun j hj => bs_rev hS ht hj)
  have e2 := oS_eq (p := p) (β := fun q => 1 - bs (t : Int) q) (γ := bs ((2 ^ S - 1 - t : Nat) : Int)) (m := S) (fun j hj => bs_rev hS ht hj)
  unfold eV
  rw [e.1, e.2, e2]
section OC
variable {d : Nat} {Q : Option AV → AMem → Prop} {sc : SC} {I J : TI}
theorem l_C_we {i r S : Nat} {p z b : Int} (hi : i < 6) (hl : S ≤ lenP r) (hS : S ≤ 6) (hs : I 28 r 1 = S) (hL : 0 ≤ I 22 0 i ∧ I 22 0 i ≤ 999) (hn : 0 ≤ I 20 0 8 ∧ I 20 0 8 ≤ 1000) (hf : ∀ j, j < S → 0 ≤ I 29 r j ∧ I 29 r j ≤ 6) (hp : 0 ≤ p ∧ p ≤ 12) (hb : 0 ≤ b ∧ b < 64) : ∀ (m j : Nat) (o : Option AV), j + m = S → (X (d + 3) m_C_weighedEnd 20 [some (vr 0 0), some (vi (i : Int)), some (vr 28 r), some (vi p), some (vi b), some (vi z), some (vi (odL (I 21 0 i) (I 22 0 i) (I 20 0 8) (I 29 r) (bs b) j)), some (vi (oC (I 21 0 i) (I 22 0 i) (I 20 0 8) (I 29 r) (bs b) j)), some (vl (oS p (bs b) j)), none, some (vi (j : Int)), o] [] (MM sc I J) Q ↔ Q (some (vl (oS p (bs b) S * oV z (oC (I 21 0 i) (I 22 0 i) (I 20 0 8) (I 29 r) (bs b) S) (odL (I 21 0 i) (I 22 0 i) (I 20 0 8) (I 29 r) (bs b) S)))) (MM sc I J))
  | 0, j, o, e => by
    have e1 : j = S := by omega
    subst e1
    have lin := odL_in (k := I 21 0 i) (n := I 20 0 8) (β := bs b) hL hf j (Nat.le_refl _)
    have cin := oC_in (k := I 21 0 i) (L := I 22 0 i) (n := I 20 0 8) (f := I 29 r) (β := bs b) j
    have sin := oS_b (β := bs b) hp hS
    rw [b_C_weighedEnd_20, hs, if_pos (by omega), b_C_weighedEnd_111, b_C_weighedEnd_125, s_L_together lin.1 lin.2, ap_s, b_C_weighedEnd_130, b_C_weighedEnd_118, b_C_weighedEnd_130, tm_eq cin.1]
    unfold oV
    by_cases q : z = 0
    · have m := mulb sin.1 sin.2 (show 0 ≤ tg (odL (I 21 0 i) (I 22 0 i) (I 20 0 8) (I 29 r) (bs b) j) by unfold tg; omega) (show tg (odL (I 21 0 i) (I 22 0 i) (I 20 0 8) (I 29 r) (bs b) j) ≤ 27 by unfold tg; omega)
      rw [if_pos q, if_pos q, w64_eq (by omega) (by omega)]
    · have m := mulb sin.1 sin.2 (show 0 ≤ oC (I 21 0 i) (I 22 0 i) (I 20 0 8) (I 29 r) (bs b) j % 2 by omega) (show oC (I 21 0 i) (I 22 0 i) (I 20 0 8) (I 29 r) (bs b) j % 2 ≤ 1 by omega)
      rw [if_neg q, if_neg q, w64_eq (by omega) (by omega)]
  | m + 1, j, o, e => by
    have lin := odL_in (k := I 21 0 i) (n := I 20 0 8) (β := bs b) hL hf j (by omega)
    have cin := oC_in (k := I 21 0 i) (L := I 22 0 i) (n := I 20 0 8) (f := I 29 r) (β := bs b) j
    have sin := oS_b (β := bs b) hp (show j ≤ 6 by omega)
    have m1 := mulb sin.1 sin.2 hp.1 hp.2
    have m2 := mulb sin.1 sin.2 (show 0 ≤ 12 - p by omega) (show 12 - p ≤ 12 by omega)
    have bo : i_and (i_shr b (j : Int)) 1 = bs b j := by unfold bs bt; rw [if_pos (by omega)]
    have fj := hf j (by omega)
    have ll := lenP_le r
    rw [b_C_weighedEnd_20, hs, if_neg (by omega), b_C_weighedEnd_29, bo]
    by_cases z0 : bs b j = 0
    · rw [if_pos z0, b_C_weighedEnd_39, w64_eq (by omega) (by omega), b_C_weighedEnd_105, wsuc (by omega)]
      rw [← l_C_we hi hl hS hs hL hn hf hp hb m (j + 1) o (by omega)]
      rw [odL, oC, oS, if_pos z0, if_pos z0, if_pos z0, Int.add_zero]
    · rw [if_neg z0, b_C_weighedEnd_49, and_iff_right (by omega), Int.toNat_natCast, w32_eq (x := 12 - p) (by omega) (by omega), w64_eq (by omega) (by omega), b_C_weighedEnd_68, and_iff_right (by omega), Int.toNat_natCast, b_C_weighedEnd_77, w32_eq (x := I 20 0 8 + (j : Int)) (by omega) (by omega), s_K_landing fj.1 fj.2 lin.1 lin.2 (by omega), ap_s, b_C_weighedEnd_90]
      by_cases z1 : ld (I 21 0 i) (odL (I 21 0 i) (I 22 0 i) (I 20 0 8) (I 29 r) (bs b) j) (I 29 r j) (I 20 0 8 + j) = -1
      · rw [if_pos z1, b_C_weighedEnd_105, wsuc (by omega)]
        rw [← l_C_we hi hl hS hs hL hn hf hp hb m (j + 1) _ (by omega)]
        rw [odL, oC, oS, if_neg z0, if_neg z0, if_neg z0, lt, if_pos z1, if_pos z1, Int.add_zero]
      · rw [if_neg z1, b_C_weighedEnd_98, b_C_weighedEnd_105, wsuc (by omega), w32_eq (x := oC (I 21 0 i) (I 22 0 i) (I 20 0 8) (I 29 r) (bs b) j + 1) (by omega) (by omega)]
        rw [← l_C_we hi hl hS hs hL hn hf hp hb m (j + 1) _ (by omega)]
        rw [odL, oC, oS, if_neg z0, if_neg z0, if_neg z0, lt, if_neg z1, if_neg z1]
theorem l_C_12 {i r S : Nat} {p z : Int} (hS : S ≤ 6) (hs : I 28 r 1 = S) : ∀ (m j : Nat), j + m = S → (X d m_C_tellChances 6 [some (vr 0 0), some (vi (i : Int)), some (vr 28 r), some (vi p), some (vi z), some (vl ((12 ^ j : Nat) : Int)), none, some (vi (j : Int)), none, none] [] (MM sc I J) Q ↔ X d m_C_tellChances 29 [some (vr 0 0), some (vi (i : Int)), some (vr 28 r), some (vi p), some (vi z), some (vl ((12 ^ S : Nat) : Int)), none, some (vi (S : Int)), none, none] [] (MM sc I J) Q)
  | 0, j, e => by
    have e1 : j = S := by omega
    subst e1
    rw [b_C_tellChances_6, hs, if_pos (by omega)]
  | m + 1, j, e => by
    have q := p12_le (show j ≤ 6 by omega)
    have q0 : 0 ≤ ((12 ^ j : Nat) : Int) := Int.natCast_nonneg _
    rw [b_C_tellChances_6, hs, if_neg (by omega), b_C_tellChances_15, w64_eq (by omega) (by omega), ← p12, wsuc (by omega)]
    exact l_C_12 hS hs m (j + 1) (by omega)
theorem l_C_tc {i r S : Nat} {p z a : Int} (hi : i < 6) (hl : S ≤ lenP r) (hS : S ≤ 6) (hs : I 28 r 1 = S) (hL : 0 ≤ I 22 0 i ∧ I 22 0 i ≤ 999) (hn : 0 ≤ I 20 0 8 ∧ I 20 0 8 ≤ 1000) (hf : ∀ j, j < S → 0 ≤ I 29 r j ∧ I 29 r j ≤ 6) (hp : 0 ≤ p ∧ p ≤ 12) : ∀ (m b : Nat), b + m = 2 ^ S → (X (d + 4) m_C_tellChances 35 [some (vr 0 0), some (vi (i : Int)), some (vr 28 r), some (vi p), some (vi z), some (vl a), none, some (vl (sm (eV (I 21 0 i) (I 22 0 i) (I 20 0 8) (I 29 r) p z S) b)), none, some (vi (b : Int))] [] (MM sc I J) Q ↔ X (d + 4) m_C_tellChances 68 [some (vr 0 0), some (vi (i : Int)), some (vr 28 r), some (vi p), some (vi z), some (vl a), none, some (vl (sm (eV (I 21 0 i) (I 22 0 i) (I 20 0 8) (I 29 r) p z S) (2 ^ S))), none, some (vi ((2 ^ S : Nat) : Int))] [] (MM sc I J) Q)
  | 0, b, e => by
    have e1 : b = 2 ^ S := by omega
    subst e1
    rw [b_C_tellChances_35, hs, shl_n hS, if_pos (by omega)]
  | m + 1, b, e => by
    have pw := pow_in hS
    have ev : ∀ j, j < 64 → 0 ≤ eV (I 21 0 i) (I 22 0 i) (I 20 0 8) (I 29 r) p z S j ∧ eV (I 21 0 i) (I 22 0 i) (I 20 0 8) (I 29 r) p z S j ≤ 80621568 := fun j _ => eV_in hL hp hS hf
    have sb := sm_in ev b (by omega)
    have eb := ev b (by omega)
    have we := l_C_we (d := d) (sc := sc) (I := I) (J := J) (z := z) (b := (b : Int)) (Q := fun r' mm => X (d + 4) m_C_tellChances 59 [some (vr 0 0), some (vi (i : Int)), some (vr 28 r), some (vi p), some (vi z), some (vl a), none, some (vl (sm (eV (I 21 0 i) (I 22 0 i) (I 20 0 8) (I 29 r) p z S) b)), none, some (vi (b : Int))] (r'.toList ++ [vl (sm (eV (I 21 0 i) (I 22 0 i) (I 20 0 8) (I 29 r) p z S) b)]) mm Q) hi hl hS hs hL hn hf hp (by omega) S 0 none (by omega)
    rw [b_C_tellChances_35, hs, shl_n hS, if_neg (by omega), b_C_tellChances_46, b_C_weighedEnd_0, and_iff_right (by omega), Int.toNat_natCast, b_C_weighedEnd_9]
    refine we.trans ?_
    rw [ap_s, b_C_tellChances_59, wsuc (by omega)]
    show X (d + 4) m_C_tellChances 35 [some (vr 0 0), some (vi (i : Int)), some (vr 28 r), some (vi p), some (vi z), some (vl a), none, some (vl (w64 (sm (eV (I 21 0 i) (I 22 0 i) (I 20 0 8) (I 29 r) p z S) b + eV (I 21 0 i) (I 22 0 i) (I 20 0 8) (I 29 r) p z S b))), none, some (vi ((b + 1 : Nat) : Int))] [] (MM sc I J) Q ↔ _
    rw [w64_eq (by omega) (by omega)]
    exact l_C_tc hi hl hS hs hL hn hf hp m (b + 1) (by omega)
end OC
