/-! NEXT -/
def cn (b t : Nat → Int) (v : Int) : Nat → Int
  | 0 => 0
  | j + 1 => cn b t v j + (if b j = 1 ∧ t j = v then 1 else 0)
def gF (b t : Nat → Int) : Nat → Int
  | 0 => 0
  | j + 1 => if b j = 0 then gF b t j else if gF b t j < cn b t (t j) (j + 1) then cn b t (t j) (j + 1) else gF b t j
def al (b t : Nat → Int) (k : Nat) : Nat → Int
  | 0 => 0
  | o + 1 => al b t k o + (if b k = 1 ∧ b o = 1 ∧ t k = t o then 1 else 0)
def moF (b t : Nat → Int) : Nat → Int
  | 0 => 0
  | k + 1 => if al b t k 6 ≤ moF b t k then moF b t k else al b t k 6
theorem cn_in (b t : Nat → Int) (v : Int) : ∀ j : Nat, 0 ≤ cn b t v j ∧ cn b t v j ≤ j
  | 0 => ⟨Int.le_refl _, Int.le_refl _⟩
  | j + 1 => by
    have := cn_in b t v j
    unfold cn
    split <;> omega
theorem al_cn (b t : Nat → Int) (k : Nat) : ∀ o : Nat, al b t k o = if b k = 1 then cn b t (t k) o else 0
  | 0 => by unfold al cn; split <;> rfl
  | o + 1 => by
    unfold al cn
    rw [al_cn b t k o]
    by_cases h : b k = 1
    · rw [if_pos h, if_pos h]
      by_cases z : b o = 1 ∧ t o = t k
      · rw [if_pos z, if_pos ⟨h, z.1, z.2.symm⟩]
      · rw [if_neg z, if_neg (fun y => z ⟨y.2.1, y.2.2.symm⟩)]
    · rw [if_neg h, if_neg h, if_neg (fun y => h y.1)]
      rfl
theorem gF_A {b t : Nat → Int} (hb : ∀ j, b j = 0 ∨ b j = 1) : ∀ (j : Nat) (v : Int), cn b t v j ≤ gF b t j
  | 0, v => Int.le_refl _
  | j + 1, v => by
    have ih := gF_A (t := t) hb j v
    unfold gF
    by_cases z : b j = 0
    · rw [if_pos z, cn, if_neg (by omega)]
      omega
    · rw [if_neg z]
      by_cases y : t j = v
      · rw [y]
        split <;> omega
      · rw [show cn b t v (j + 1) = cn b t v j + (if b j = 1 ∧ t j = v then 1 else 0) from rfl, if_neg (fun x => y x.2)]
        split <;> omega
theorem gF_B {b t : Nat → Int} (hb : ∀ j, b j = 0 ∨ b j = 1) : ∀ j : Nat, gF b t j = 0 ∨ ∃ k, k < j ∧ b k = 1 ∧ cn b t (t k) j = gF b t j
  | 0 => Or.inl rfl
  | j + 1 => by
    unfold gF
    by_cases z : b j = 0
    · rw [if_pos z]
      rcases gF_B (t := t) hb j with h | ⟨k, h1, h2, h3⟩
      · exact Or.inl h
      · refine Or.inr ⟨k, by omega, h2, ?_⟩
        rw [cn, if_neg (by omega)]
        omega
    · rw [if_neg z]
      have bj : b j = 1 := by have := hb j; omega
      have c0 := (cn_in b t (t j) j).1
      have cj : cn b t (t j) (j + 1) = cn b t (t j) j + 1 := by rw [cn, if_pos ⟨bj, rfl⟩]
      by_cases y : gF b t j < cn b t (t j) (j + 1)
      · rw [if_pos y]
        exact Or.inr ⟨j, by omega, bj, rfl⟩
      · rw [if_neg y]
        rcases gF_B (t := t) hb j with h | ⟨k, h1, h2, h3⟩
        · exfalso; omega
        · refine Or.inr ⟨k, by omega, h2, ?_⟩
          rw [cn]
          by_cases x : t j = t k
          · exfalso
            rw [x] at cj y
            omega
          · rw [if_neg (fun w => x w.2)]
            omega
theorem moF_A {b t : Nat → Int} : ∀ (K k : Nat), k < K → al b t k 6 ≤ moF b t K
  | 0, k, h => by omega
  | K + 1, k, h => by
    unfold moF
    by_cases e : k = K
    · subst e
      split <;> omega
    · have := moF_A (b := b) (t := t) K k (by omega)
      split <;> omega
theorem moF_B {b t : Nat → Int} : ∀ K : Nat, moF b t K = 0 ∨ ∃ k, k < K ∧ moF b t K = al b t k 6
  | 0 => Or.inl rfl
  | K + 1 => by
    unfold moF
    split
    · rcases moF_B (b := b) (t := t) K with h | ⟨k, h1, h2⟩
      · exact Or.inl h
      · exact Or.inr ⟨k, by omega, h2⟩
    · exact Or.inr ⟨K, by omega, rfl⟩
theorem moF_0 {b t : Nat → Int} : ∀ K : Nat, 0 ≤ moF b t K
  | 0 => Int.le_refl _
  | K + 1 => by
    have := moF_0 (b := b) (t := t) K
    unfold moF
    split <;> omega
theorem gF_mo {b t : Nat → Int} (hb : ∀ j, b j = 0 ∨ b j = 1) : moF b t 6 = gF b t 6 := by
  have h1 : moF b t 6 ≤ gF b t 6 := by
    rcases moF_B (b := b) (t := t) 6 with h | ⟨k, k1, k2⟩
    · have := gF_A (t := t) hb 6 0
      have := (cn_in b t 0 6).1
      omega
    · rw [k2, al_cn]
      have := gF_A (t := t) hb 6 (t k)
      have := (cn_in b t (t k) 6).1
      split <;> omega
  have h2 : gF b t 6 ≤ moF b t 6 := by
    rcases gF_B (t := t) hb 6 with h | ⟨k, k1, k2, k3⟩
    · rw [h]; exact moF_0 6
    · have := moF_A (b := b) (t := t) 6 k k1
      rw [al_cn, if_pos k2] at this
      omega
  omega
theorem gF_in {b t : Nat → Int} : ∀ j : Nat, 0 ≤ gF b t j ∧ gF b t j ≤ j
  | 0 => ⟨Int.le_refl _, Int.le_refl _⟩
  | j + 1 => by
    have := gF_in (b := b) (t := t) j
    have := cn_in b t (t j) (j + 1)
    unfold gF
    (repeat' split) <;> omega
theorem al_in (b t : Nat → Int) (k : Nat) : ∀ o : Nat, 0 ≤ al b t k o ∧ al b t k o ≤ o
  | 0 => ⟨Int.le_refl _, Int.le_refl _⟩
  | o + 1 => by
    have := al_in b t k o
    unfold al
    split <;> omega
theorem gF_eq {b t u : Nat → Int} : ∀ {j : Nat}, (∀ k, k < j → t k = u k) → (∀ v, cn b t v j = cn b u v j) ∧ gF b t j = gF b u j
  | 0, _ => ⟨fun _ => rfl, rfl⟩
  | j + 1, h => by
    have ih := gF_eq (b := b) (j := j) (fun k hk => h k (by omega))
    have c : ∀ v, cn b t v (j + 1) = cn b u v (j + 1) := fun v => by
      unfold cn
      rw [ih.1 v, h j (by omega)]
    refine ⟨c, ?_⟩
    unfold gF
    rw [ih.2, h j (by omega), c]
def bt (set : Int) (k : Nat) : Int := i_and (i_shr set (k : Int)) 1
theorem bt_dec : ∀ x : _root_.Fin 64, ∀ c : _root_.Fin 6, i_and (i_shr (x.val : Int) (c.val : Int)) 1 = 0 ∨ i_and (i_shr (x.val : Int) (c.val : Int)) 1 = 1 := by decide +kernel
/-- the bit, 0 beyond six -/
def bs (set : Int) (k : Nat) : Int := if k < 6 then bt set k else 0
theorem bs_01 {set : Int} (h : 0 ≤ set ∧ set < 64) (k : Nat) : bs set k = 0 ∨ bs set k = 1 := by
  unfold bs bt
  by_cases c : k < 6
  · rw [if_pos c]
    obtain ⟨x, rfl⟩ := Int.eq_ofNat_of_zero_le h.1
    exact bt_dec ⟨x, by omega⟩ ⟨k, c⟩
  · rw [if_neg c]
    exact Or.inl rfl
def tk (L c n : Int) (k : Nat) : Int := tg (lt k L c n)
theorem tk_in {L c n : Int} (hL : 0 ≤ L ∧ L ≤ 999) (h1 : 0 ≤ c) (h2 : c ≤ 6) (k : Nat) : 0 ≤ tk L c n k ∧ tk L c n k ≤ 27 := by
  have := lt_in (k := (k : Int)) (n := n) h1 h2 hL.1 hL.2
  unfold tk tg
  omega
section NX
variable {d : Nat} {Q : Option AV → AMem → Prop} {sc : SC} {I J : TI}
theorem l_JA_fill {t i n : Nat} {v : Int} (h0 : ∀ f g, cellF sc t i f g = .inl (0, n, f)) (hn : n ≤ 5000) : ∀ (m k : Nat) (I : TI), k + m = n → (X d m_JA_fill 5 [some (vr t i), some (vi v), some (vi (k : Int)), some (vi (n : Int))] [] (MM sc I J) Q ↔ Q none (MM sc (flI I t i k n v) J))
  | 0, k, I, e => by
    have e1 : k = n := by omega
    subst e1
    rw [fl_nil (Nat.le_refl _), b_JA_fill_5, if_pos (by omega), b_JA_fill_20]
  | m + 1, k, I, e => by
    rw [b_JA_fill_5, if_neg (by omega), b_JA_fill_10 h0, and_iff_right (by omega), b_JA_fill_14, Int.toNat_natCast, wsuc (by omega), l_JA_fill h0 hn m (k + 1) _ (by omega), fl_step (by omega)]
theorem s_JA_fill {t i n : Nat} {v : Int} (h0 : ∀ f g, cellF sc t i f g = .inl (0, n, f)) (hn : n ≤ 5000) : X d m_JA_fill 0 [some (vr t i), some (vi v), none, none] [] (MM sc I J) Q ↔ Q none (MM sc (flI I t i 0 n v) J) := by
  rw [b_JA_fill_0 h0, b_JA_fill_4]
  exact l_JA_fill h0 hn n 0 I (by omega)
theorem l_C_gp {set L : Int} {c : Nat} (hc : c < 7) (hset : 0 ≤ set ∧ set < 64) (hL : 0 ≤ L ∧ L ≤ 999) (hn : 0 ≤ I 20 0 8) (hQ : ∀ p, Q (some (vi (gF (bs set) (tk L c (I 20 0 8)) 6))) (MM sc (up2 I 12 0 p) J)) : ∀ (m k : Nat) (p : Nat → Int) (o : Option AV), k + m = 6 → (∀ v : Nat, v < 28 → p v = cn (bs set) (tk L c (I 20 0 8)) v k) → X (d + 4) m_C_greatestPart 14 [some (vr 0 0), some (vi set), some (vi L), some (vi (c : Int)), some (vi (gF (bs set) (tk L c (I 20 0 8)) k)), some (vi (k : Int)), o] [] (MM sc (up2 I 12 0 p) J) Q
  | 0, k, p, o, e, hp => by
    have e1 : k = 6 := by omega
    subst e1
    rw [b_C_greatestPart_14, if_pos (by omega), b_C_greatestPart_80]
    exact hQ p
  | m + 1, k, p, o, e, hp => by
    have bsk : bs set k = i_and (i_shr set (k : Int)) 1 := by unfold bs bt; rw [if_pos (by omega)]
    rw [b_C_greatestPart_14, if_neg (by omega), b_C_greatestPart_21, ← bsk]
    by_cases z : bs set k = 0
    · rw [if_pos z, b_C_greatestPart_74, wsuc (by omega)]
      have g1 : gF (bs set) (tk L c (I 20 0 8)) (k + 1) = gF (bs set) (tk L c (I 20 0 8)) k := if_pos z
      rw [← g1]
      refine l_C_gp hc hset hL hn hQ m (k + 1) p o (by omega) (fun v hv => ?_)
      rw [hp v hv, show cn (bs set) (tk L c (I 20 0 8)) v (k + 1) = cn (bs set) (tk L c (I 20 0 8)) v k + (if bs set k = 1 ∧ tk L c (I 20 0 8) k = v then 1 else 0) from rfl, if_neg (by omega)]
      omega
    · have z1 : bs set k = 1 := by have := bs_01 hset k; omega
      have hlt := lt_in (k := (k : Int)) (c := (c : Int)) (n := I 20 0 8) (by omega) (by omega) hL.1 hL.2
      have ht := tk_in (L := L) (c := (c : Int)) (n := I 20 0 8) hL (by omega) (by omega) k
      obtain ⟨v, hv⟩ := Int.eq_ofNat_of_zero_le ht.1
      have cv := cn_in (bs set) (tk L c (I 20 0 8)) v k
      have hpv := hp v (by omega)
      have u1 : ∀ q w, upI (up2 I 12 0 p) 12 0 q w = up2 I 12 0 (upF p q w) := fun q w => up2_up
      have hcn : cn (bs set) (tk L c (I 20 0 8)) v (k + 1) = p v + 1 := by
        rw [show cn (bs set) (tk L c (I 20 0 8)) v (k + 1) = cn (bs set) (tk L c (I 20 0 8)) v k + (if bs set k = 1 ∧ tk L c (I 20 0 8) k = v then 1 else 0) from rfl, if_pos ⟨z1, hv⟩, hpv]
      have g1 : gF (bs set) (tk L c (I 20 0 8)) (k + 1) = if gF (bs set) (tk L c (I 20 0 8)) k < p v + 1 then p v + 1 else gF (bs set) (tk L c (I 20 0 8)) k := by
        rw [show gF (bs set) (tk L c (I 20 0 8)) (k + 1) = if bs set k = 0 then gF (bs set) (tk L c (I 20 0 8)) k else if gF (bs set) (tk L c (I 20 0 8)) k < cn (bs set) (tk L c (I 20 0 8)) (tk L c (I 20 0 8) k) (k + 1) then cn (bs set) (tk L c (I 20 0 8)) (tk L c (I 20 0 8) k) (k + 1) else gF (bs set) (tk L c (I 20 0 8)) k from rfl, if_neg z, hv, hcn]
      rw [if_neg z, b_C_greatestPart_30, show up2 I 12 0 p 20 = I 20 from rfl, s_K_lifeThen (by omega) (by omega) hL.1 hL.2 hn, ap_s, b_C_greatestPart_44, s_L_together hlt.1 hlt.2, ap_s, show tg (lt (k : Int) L c (I 20 0 8)) = tk L c (I 20 0 8) k from rfl, hv, b_C_greatestPart_47, and_iff_right (by omega), Int.toNat_natCast, b_C_greatestPart_57, and_iff_right (by omega), Int.toNat_natCast, up2_same, u1, w32_eq (x := p v + 1) (by omega) (by omega), b_C_greatestPart_60, and_iff_right (by omega), Int.toNat_natCast, up2_same, show upF p v (p v + 1) v = p v + 1 from if_pos rfl, b_C_greatestPart_69, b_C_greatestPart_74, wsuc (by omega), ← g1]
      refine l_C_gp hc hset hL hn hQ m (k + 1) _ _ (by omega) (fun w hw => ?_)
      unfold upF
      by_cases y : w = v
      · rw [if_pos y, y, hcn]
      · rw [if_neg y, hp w hw, show cn (bs set) (tk L c (I 20 0 8)) w (k + 1) = cn (bs set) (tk L c (I 20 0 8)) w k + (if bs set k = 1 ∧ tk L c (I 20 0 8) k = w then 1 else 0) from rfl, if_neg (by omega)]
        omega
theorem s_C_gp {set L : Int} {c : Nat} {p : Nat → Int} (hc : c < 7) (hset : 0 ≤ set ∧ set < 64) (hL : 0 ≤ L ∧ L ≤ 999) (hn : 0 ≤ I 20 0 8) (hQ : ∀ p, Q (some (vi (gF (bs set) (tk L c (I 20 0 8)) 6))) (MM sc (up2 I 12 0 p) J)) : X (d + 4) m_C_greatestPart 0 [some (vr 0 0), some (vi set), some (vi L), some (vi (c : Int)), none, none, none] [] (MM sc (up2 I 12 0 p) J) Q := by
  have e : flI (up2 I 12 0 p) 12 0 0 28 0 = up2 I 12 0 (fun q => if q < 28 then 0 else p q) := by
    funext t i q
    simp only [flI, rd_up2]
    by_cases a : t = 12 ∧ i = 0
    · obtain ⟨a, b⟩ := a
      subst a b
      simp
    · rw [if_neg (by omega), if_neg a, if_neg a]
  rw [b_C_greatestPart_0, s_JA_fill (n := 28) (fun _ _ => rfl) (by decide), ap_n, b_C_greatestPart_8, e]
  exact l_C_gp hc hset hL hn hQ 6 0 _ none (by omega) (fun v hv => by rw [if_pos hv]; rfl)
end NX
