/-! DUEL: most together, the game's values -/
def mxF (F : Nat → Int) : Nat → Int
  | 0 => 0
  | c + 1 => if mxF F c < F c then F c else mxF F c
theorem mx_s (F : Nat → Int) (c : Nat) : mxF F (c + 1) = if mxF F c < F c then F c else mxF F c := rfl
def mt (k : Int) : Nat → Int → Int → Int
  | 0, L, _ => tg L
  | t + 1, L, n => mxF (fun c => mt k t (lt k L (c : Int) n) (n + 2)) 7
theorem mx_in {F : Nat → Int} {b : Int} {N : Nat} (hb : 0 ≤ b) (h : ∀ c, c < N → 0 ≤ F c ∧ F c ≤ b) : ∀ c : Nat, c ≤ N → 0 ≤ mxF F c ∧ mxF F c ≤ b
  | 0, _ => ⟨Int.le_refl _, hb⟩
  | c + 1, hc => by
    have ih := mx_in hb h c (by omega)
    have q := h c (by omega)
    unfold mxF
    split <;> omega
theorem mt_in {k : Int} : ∀ (t : Nat) {L n : Int}, 0 ≤ L ∧ L ≤ 999 → 0 ≤ mt k t L n ∧ mt k t L n ≤ 27
  | 0, L, n, h => by
    show 0 ≤ tg L ∧ tg L ≤ 27
    unfold tg
    omega
  | t + 1, L, n, h => mx_in (by decide) (fun c hc => mt_in t (lt_in (by omega) (by omega) h.1 h.2)) 7 (Nat.le_refl _)
/-- the reference's best of seven, for whoever is at turn k -/
def bst (k : Nat) (F : Nat → Int) : Nat → Int
  | 0 => F 0
  | c + 1 => if k % 2 = 0 then (if bst k F c < F (c + 1) then F (c + 1) else bst k F c) else (if bst k F c < F (c + 1) then bst k F c else F (c + 1))
theorem bst_max {k : Nat} {F G : Nat → Int} {K : Int} (hk : k % 2 = 0) (hG : ∀ c, c < 7 → 0 ≤ G c) (hF : ∀ c, c < 7 → F c = G c - K) : ∀ c : Nat, c < 7 → bst k F c = mxF G (c + 1) - K
  | 0, _ => by
    have g := hG 0 (by omega)
    rw [bst, hF 0 (by omega), mx_s G 0, show mxF G 0 = 0 from rfl]
    by_cases z : 0 < G 0
    · rw [if_pos z]
    · rw [if_neg z]; omega
  | c + 1, hc => by
    have ih := bst_max hk hG hF c (by omega)
    rw [bst, if_pos hk, ih, hF (c + 1) hc, mx_s G (c + 1)]
    by_cases z : mxF G (c + 1) < G (c + 1)
    · rw [if_pos z, if_pos (by omega)]
    · rw [if_neg z, if_neg (by omega)]
theorem bst_min {k : Nat} {F G : Nat → Int} {K : Int} (hk : k % 2 = 1) (hG : ∀ c, c < 7 → 0 ≤ G c) (hF : ∀ c, c < 7 → F c = K - G c) : ∀ c : Nat, c < 7 → bst k F c = K - mxF G (c + 1)
  | 0, _ => by
    have g := hG 0 (by omega)
    rw [bst, hF 0 (by omega), mx_s G 0, show mxF G 0 = 0 from rfl]
    by_cases z : 0 < G 0
    · rw [if_pos z]
    · rw [if_neg z]; omega
  | c + 1, hc => by
    have ih := bst_min hk hG hF c (by omega)
    rw [bst, if_neg (by omega), ih, hF (c + 1) hc, mx_s G (c + 1)]
    by_cases z : mxF G (c + 1) < G (c + 1)
    · rw [if_pos z, if_neg (by omega)]
    · rw [if_neg z]
      by_cases y : K - mxF G (c + 1) < K - G (c + 1)
      · rw [if_pos y]
      · rw [if_neg y]; omega
/-- the life of who declares at turns of parity e, by the m figures of a code -/
def dA (k L n : Int) (e : Nat) : Nat → Nat → Int
  | 0, _ => L
  | m + 1, q => if m % 2 = e then lt k (dA k L n e m (q / 7)) ((q % 7 : Nat) : Int) (n + m) else dA k L n e m (q / 7)
theorem dA_in {k L n : Int} {e : Nat} (hL : 0 ≤ L ∧ L ≤ 999) : ∀ m q : Nat, 0 ≤ dA k L n e m q ∧ dA k L n e m q ≤ 999
  | 0, _ => hL
  | m + 1, q => by
    have ih := dA_in (k := k) (n := n) (e := e) hL m (q / 7)
    unfold dA
    split
    · exact lt_in (by omega) (by omega) ih.1 ih.2
    · exact ih
def duV (ki kj Li Lj n0 : Int) (n k q : Nat) : Int := mt ki (n - (k + 1) / 2) (dA ki Li n0 0 k q) (n0 + ((2 * ((k + 1) / 2) : Nat) : Int)) - mt kj (n - k / 2) (dA kj Lj n0 1 k q) (n0 + 1 + ((2 * (k / 2) : Nat) : Int))
theorem duV_step {ki kj Li Lj n0 : Int} (hi : 0 ≤ Li ∧ Li ≤ 999) (hj : 0 ≤ Lj ∧ Lj ≤ 999) {n k q : Nat} (hk : k < 2 * n) {F : Nat → Int} (hF : ∀ c, c < 7 → F c = duV ki kj Li Lj n0 n (k + 1) (7 * q + c)) : bst k F 6 = duV ki kj Li Lj n0 n k q := by
  by_cases e : k % 2 = 0
  · obtain ⟨t, ht⟩ : ∃ t, n - (k + 1) / 2 = t + 1 := ⟨n - (k + 1) / 2 - 1, by omega⟩
    have key := bst_max (k := k) (F := F) (G := fun c => mt ki t (lt ki (dA ki Li n0 0 k q) (c : Int) (n0 + k)) (n0 + k + 2)) (K := mt kj (n - k / 2) (dA kj Lj n0 1 k q) (n0 + 1 + ((2 * (k / 2) : Nat) : Int))) e (fun c hc => (mt_in t (lt_in (by omega) (by omega) (dA_in hi k q).1 (dA_in hi k q).2)).1) (fun c hc => by
      rw [hF c hc]
      unfold duV
      rw [dA, dA, if_pos e, if_neg (by omega), show (7 * q + c) / 7 = q by omega, show (7 * q + c) % 7 = c by omega, show n - (k + 1 + 1) / 2 = t by omega, show (k + 1) / 2 = k / 2 by omega, show n0 + ((2 * ((k + 1 + 1) / 2) : Nat) : Int) = n0 + k + 2 by omega]) 6 (by omega)
    rw [key]
    unfold duV
    rw [ht, mt, show n0 + ((2 * ((k + 1) / 2) : Nat) : Int) = n0 + k by omega]
    try rfl
  · obtain ⟨t, ht⟩ : ∃ t, n - k / 2 = t + 1 := ⟨n - k / 2 - 1, by omega⟩
    have key := bst_min (k := k) (F := F) (G := fun c => mt kj t (lt kj (dA kj Lj n0 1 k q) (c : Int) (n0 + k)) (n0 + k + 2)) (K := mt ki (n - (k + 1) / 2) (dA ki Li n0 0 k q) (n0 + ((2 * ((k + 1) / 2) : Nat) : Int))) (by omega) (fun c hc => (mt_in t (lt_in (by omega) (by omega) (dA_in hj k q).1 (dA_in hj k q).2)).1) (fun c hc => by
      rw [hF c hc]
      unfold duV
      rw [dA, dA, if_neg e, if_pos (by omega), show (7 * q + c) / 7 = q by omega, show (7 * q + c) % 7 = c by omega, show n - (k + 1) / 2 = t by omega, show (k + 1 + 1) / 2 = (k + 1) / 2 by omega, show n - (k + 1) / 2 = t by omega, show n0 + 1 + ((2 * ((k + 1) / 2) : Nat) : Int) = n0 + k + 2 by omega]) 6 (by omega)
    rw [key]
    unfold duV
    rw [ht, mt, show n0 + 1 + ((2 * (k / 2) : Nat) : Int) = n0 + k by omega]
    try rfl
section DU
variable {d : Nat} {Q : Option AV → AMem → Prop} {sc : SC} {I J : TI}
theorem s_C_mt {k : Int} : ∀ (t : Nat) {L n : Int} {d : Nat} {Q : Option AV → AMem → Prop}, t ≤ 2 → 0 ≤ L ∧ L ≤ 999 → 0 ≤ n ∧ n ≤ 1000 + 10 * (2 - t) → (X (d + 4 + t) m_C_mostTogether 0 [some (vi k), some (vi L), some (vi n), some (vi (t : Int)), none, none, none] [] (MM sc I J) Q ↔ Q (some (vi (mt k t L n))) (MM sc I J))
  | 0, L, n, d, Q, ht, hL, hn => by
    show X (d + 3 + 1) _ _ _ _ _ _ ↔ _
    rw [b_C_mostTogether_0, if_neg (by omega), b_C_mostTogether_4, s_L_together hL.1 hL.2, ap_s, b_C_mostTogether_8]
    exact Iff.rfl
  | t + 1, L, n, d, Q, ht, hL, hn => by
    have loop : ∀ (m c : Nat) (o : Option AV), c + m = 7 → (X (d + 4 + (t + 1)) m_C_mostTogether 15 [some (vi k), some (vi L), some (vi n), some (vi ((t + 1 : Nat) : Int)), some (vi (mxF (fun c => mt k t (lt k L (c : Int) n) (n + 2)) c)), some (vi (c : Int)), o] [] (MM sc I J) Q ↔ Q (some (vi (mxF (fun c => mt k t (lt k L (c : Int) n) (n + 2)) 7))) (MM sc I J)) := by
      intro m
      induction m with
      | zero =>
        intro c o e
        have e1 : c = 7 := by omega
        subst e1
        rw [b_C_mostTogether_15, if_pos (by omega), b_C_mostTogether_57]
      | succ m ih =>
        intro c o e
        have li := lt_in (k := k) (L := L) (c := (c : Int)) (n := n) (by omega) (by omega) hL.1 hL.2
        have rc := fun Q => s_C_mt (k := k) t (L := lt k L (c : Int) n) (n := n + 2) (d := d) (Q := Q) (by omega) li (by omega)
        have ih' := ih (c + 1) (some (vi (lt k L (c : Int) n))) (by omega)
        rw [mx_s (fun c => mt k t (lt k L (c : Int) n) (n + 2)) c] at ih'
        rw [show d + 4 + (t + 1) = (d + t + 3 + 1) + 1 by omega, b_C_mostTogether_15, if_neg (by omega), b_C_mostTogether_22, s_K_lifeThen (by omega) (by omega) hL.1 hL.2 hn.1, ap_s, b_C_mostTogether_30, w32_eq (x := n + 2) (by omega) (by omega), w32_eq (x := ((t + 1 : Nat) : Int) - 1) (by omega) (by omega), show ((t + 1 : Nat) : Int) - 1 = (t : Int) by omega, show d + t + 3 + 1 = d + 4 + t by omega]
        refine (rc _).trans ?_
        rw [ap_s, b_C_mostTogether_46, wsuc (by omega)]
        exact ih'
    rw [b_C_mostTogether_0, if_pos (by omega), b_C_mostTogether_9]
    exact loop 7 0 none (by omega)
end DU
