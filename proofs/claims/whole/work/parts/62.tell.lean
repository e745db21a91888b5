/-! TELLING A PART -/
theorem gcd_st (a b : Nat) : Nat.gcd a b = Nat.gcd b (a % b) := by
  rw [Nat.gcd_comm a b, Nat.gcd_rec b a, Nat.gcd_comm]
theorem tmN (a b : Nat) : ((a : Int)).tmod (b : Int) = ((a % b : Nat) : Int) := by
  rw [tm_eq (by omega)]; rfl
theorem lc0 (b : Nat) : l_cmp (b : Int) 0 = 0 ↔ b = 0 := by
  unfold l_cmp
  (repeat' split) <;> omega
section TE
variable {d : Nat} {Q : Option AV → AMem → Prop} {sc : SC} {I J : TI}
theorem l_C_gs : ∀ (n a b k : Nat) (o : Option AV), b < 2 ^ n → k + 2 * n ≤ 98 → (X d m_C_greatestShared 3 [some (vl (a : Int)), none, some (vl (b : Int)), none, some (vi (k : Int)), o, none] [] (MM sc I J) Q ↔ Q (some (vl ((Nat.gcd a b : Nat) : Int))) (MM sc I J))
  | 0, a, b, k, o, hb, hk => by
    have b0 : b = 0 := by
      have : (2 : Nat) ^ 0 = 1 := rfl
      omega
    subst b0
    rw [b_C_greatestShared_3, if_neg (by omega), b_C_greatestShared_10, if_pos ((lc0 0).mpr rfl), b_C_greatestShared_32, Nat.gcd_zero_right]
  | n + 1, a, b, k, o, hb, hk => by
    rw [b_C_greatestShared_3, if_neg (by omega), b_C_greatestShared_10, b_C_greatestShared_32]
    by_cases b0 : b = 0
    · subst b0
      rw [if_pos ((lc0 0).mpr rfl), Nat.gcd_zero_right]
    · rw [if_neg (fun z => b0 ((lc0 b).mp z)), b_C_greatestShared_16, and_iff_right (by omega), b_C_greatestShared_19, tmN, wsuc (by omega), gcd_st a b]
      have hr : a % b < b := Nat.mod_lt _ (by omega)
      generalize a % b = r at *
      rw [b_C_greatestShared_3, if_neg (by omega), b_C_greatestShared_10, b_C_greatestShared_32]
      by_cases r0 : r = 0
      · subst r0
        rw [if_pos ((lc0 0).mpr rfl), Nat.gcd_zero_right]
      · have hq : b % r < r := Nat.mod_lt _ (by omega)
        have hd : b % r + r ≤ b := by
          have h1 := Nat.div_add_mod b r
          have h2 : 1 ≤ b / r := (Nat.one_le_div_iff (by omega)).mpr (by omega)
          have h3 : r * 1 ≤ r * (b / r) := Nat.mul_le_mul_left r h2
          omega
        have h2 : b % r < 2 ^ n := by
          have : (2 : Nat) ^ (n + 1) = 2 ^ n * 2 := rfl
          omega
        rw [if_neg (fun z => r0 ((lc0 r).mp z)), b_C_greatestShared_16, and_iff_right (by omega), b_C_greatestShared_19, tmN, wsuc (by omega), gcd_st b r]
        exact l_C_gs n r (b % r) (k + 1 + 1) _ h2 (by omega)
theorem s_C_tell {u w : Nat} (hw : 1 ≤ w) (hw2 : w < 2 ^ 40) : X (d + 1) m_C_tell 0 [some (vr 0 0), some (vl (u : Int)), none, some (vl (w : Int)), none, none, none] [] (MM sc I J) Q ↔ Q none (MM sc I (upI (upI J 0 0 7 (w64 ((u : Int).tdiv ((Nat.gcd u w : Nat) : Int)))) 0 0 8 (w64 ((w : Int).tdiv ((Nat.gcd u w : Nat) : Int))))) := by
  have hg : 0 < Nat.gcd u w := Nat.gcd_pos_of_pos_right u (by omega)
  have gs := l_C_gs (d := d) (sc := sc) (I := I) (J := J) (Q := fun r mm => X (d + 1) m_C_tell 5 [some (vr 0 0), some (vl (u : Int)), none, some (vl (w : Int)), none, none, none] (r.toList ++ []) mm Q) 40 u w 0 none hw2 (by omega)
  rw [b_C_tell_0, b_C_greatestShared_0]
  refine gs.trans ?_
  generalize Nat.gcd u w = g at *
  have lc : ¬ l_cmp (g : Int) 0 ≤ 0 := by
    unfold l_cmp
    rw [if_pos (by omega)]
    omega
  rw [ap_s, b_C_tell_5, if_neg lc, b_C_tell_14, and_iff_right (by omega), b_C_tell_19, b_C_tell_22, and_iff_right (by omega), b_C_tell_27, b_C_tell_30]
theorem l_D_tp {u w : Nat} (hw : 1 ≤ Nat.gcd u w) : ∀ (n a b : Nat) (o : Option AV), b ≤ n → Nat.gcd a b = Nat.gcd u w → (X d m_D_tellsPart 6 [some (vr 39 0), some (vl (u : Int)), none, some (vl (w : Int)), none, some (vl (a : Int)), none, some (vl (b : Int)), none, o, none] [] (MM sc I J) Q ↔ Q (some (vi 1)) (MM sc I (upI (upI J 39 0 13 (w64 ((u : Int).tdiv ((Nat.gcd u w : Nat) : Int)))) 39 0 14 (w64 ((w : Int).tdiv ((Nat.gcd u w : Nat) : Int))))))
  | n, a, 0, o, _, h => by
    rw [Nat.gcd_zero_right] at h
    subst h
    rw [b_D_tellsPart_6, if_pos ((lc0 0).mpr rfl), b_D_tellsPart_31, and_iff_right (by omega), b_D_tellsPart_36, b_D_tellsPart_39, and_iff_right (by omega), b_D_tellsPart_44, b_D_tellsPart_47]
  | 0, a, b + 1, o, hb, h => by omega
  | n + 1, a, b + 1, o, hb, h => by
    have hr : a % (b + 1) < b + 1 := Nat.mod_lt _ (by omega)
    rw [b_D_tellsPart_6, if_neg (fun z => by have := (lc0 (b + 1)).mp z; omega), b_D_tellsPart_13, and_iff_right (by omega), b_D_tellsPart_18, tmN]
    exact l_D_tp hw n (b + 1) (a % (b + 1)) _ (by omega) (by rw [← gcd_st]; exact h)
theorem s_D_tellsPart {u w : Nat} (hw : 1 ≤ w) : X d m_D_tellsPart 0 [some (vr 39 0), some (vl (u : Int)), none, some (vl (w : Int)), none, none, none, none, none, none, none] [] (MM sc I J) Q ↔ Q (some (vi 1)) (MM sc I (upI (upI J 39 0 13 (w64 ((u : Int).tdiv ((Nat.gcd u w : Nat) : Int)))) 39 0 14 (w64 ((w : Int).tdiv ((Nat.gcd u w : Nat) : Int))))) := by
  have hg : 0 < Nat.gcd u w := Nat.gcd_pos_of_pos_right u (by omega)
  rw [b_D_tellsPart_0]
  exact l_D_tp hg w u w none (Nat.le_refl _) rfl
end TE
def wtK (k L : Int) : Int := tg L + (if k = 1 ∨ k = 4 then 1 else 0)
def wSF (K L : Nat → Int) (set : Int) : Nat → Int
  | 0 => 0
  | j + 1 => wSF K L set j + (if bs set j = 1 then wtK (K j) (L j) else 0)
theorem wtK_in {k L : Int} (h : 0 ≤ L ∧ L ≤ 999) : 0 ≤ wtK k L ∧ wtK k L ≤ 28 := by
  unfold wtK tg
  split <;> omega
theorem wSF_in {K L : Nat → Int} {set : Int} {n : Nat} (h : ∀ j, j < n → 0 ≤ L j ∧ L j ≤ 999) : ∀ j : Nat, j ≤ n → 0 ≤ wSF K L set j ∧ wSF K L set j ≤ 28 * j
  | 0, _ => ⟨Int.le_refl _, Int.le_refl _⟩
  | j + 1, hj => by
    have := wSF_in (K := K) (set := set) h j (by omega)
    have := wtK_in (k := K j) (h j (by omega))
    unfold wSF
    split <;> omega
theorem wSF_eq {K L K' L' : Nat → Int} {set : Int} : ∀ {n : Nat}, (∀ j, j < n → K j = K' j ∧ L j = L' j) → wSF K L set n = wSF K' L' set n
  | 0, _ => rfl
  | n + 1, h => by
    unfold wSF
    rw [wSF_eq (n := n) (fun j hj => h j (by omega)), (h n (by omega)).1, (h n (by omega)).2]
theorem shl_dec : ∀ n : _root_.Fin 7, i_shl 1 (n.val : Int) = ((2 ^ n.val : Nat) : Int) := by decide +kernel
theorem shl_n {n : Nat} (h : n ≤ 6) : i_shl 1 (n : Int) = ((2 ^ n : Nat) : Int) := shl_dec ⟨n, by omega⟩
theorem pow_in {n : Nat} (h : n ≤ 6) : 1 ≤ 2 ^ n ∧ 2 ^ n ≤ 64 := by
  have : n = 0 ∨ n = 1 ∨ n = 2 ∨ n = 3 ∨ n = 4 ∨ n = 5 ∨ n = 6 := by omega
  rcases this with e | e | e | e | e | e | e <;> subst e <;> decide
section TW
variable {d : Nat} {Q : Option AV → AMem → Prop} {sc : SC} {I J : TI}
theorem l_F_wos {i0 n : Nat} {set : Int} (hset : 0 ≤ set ∧ set < 64) (hn : n ≤ 6) (hs : I 20 i0 7 = n) (hL : ∀ j, j < n → 0 ≤ I 22 i0 j ∧ I 22 i0 j ≤ 999) : ∀ (m j : Nat), j + m = n → (X (d + 2) m_F_weightOfSet 4 [some (vr 20 i0), some (vi set), some (vi (wSF (I 21 i0) (I 22 i0) set j)), some (vi (j : Int))] [] (MM sc I J) Q ↔ Q (some (vi (wSF (I 21 i0) (I 22 i0) set n))) (MM sc I J))
  | 0, j, e => by
    have e1 : j = n := by omega
    subst e1
    rw [b_F_weightOfSet_4, hs, if_pos (by omega), b_F_weightOfSet_44]
  | m + 1, j, e => by
    have bo : i_and (i_shr set (j : Int)) 1 = bs set j := by unfold bs bt; rw [if_pos (by omega)]
    have b01 := bs_01 hset j
    have hj := wSF_in (K := I 21 i0) (set := set) hL j (by omega)
    have hw := wtK_in (k := I 21 i0 j) (hL j (by omega))
    rw [b_F_weightOfSet_4, hs, if_neg (by omega), b_F_weightOfSet_12, bo, b_F_weightOfSet_20, and_iff_right (by omega), Int.toNat_natCast, b_F_weightOfSet_27, and_iff_right (by omega), Int.toNat_natCast, b_F_weightOfSet_33, s_K_weightOf (hL j (by omega)).1 (hL j (by omega)).2, ap_s, b_F_weightOfSet_36, show tg (I 22 i0 j) + (if I 21 i0 j = 1 ∨ I 21 i0 j = 4 then 1 else 0) = wtK (I 21 i0 j) (I 22 i0 j) from rfl, w32_eq (by omega) (by omega), b_F_weightOfSet_38, b_F_weightOfSet_38, wsuc (by omega)]
    rw [← l_F_wos hset hn hs hL m (j + 1) (by omega)]
    rw [wSF]
    by_cases z : bs set j = 0
    · rw [if_pos z, if_neg (by omega), Int.add_zero]
    · rw [if_neg z, if_pos (by omega)]
theorem s_F_wos {i0 n : Nat} {set : Int} (hset : 0 ≤ set ∧ set < 64) (hn : n ≤ 6) (hs : I 20 i0 7 = n) (hL : ∀ j, j < n → 0 ≤ I 22 i0 j ∧ I 22 i0 j ≤ 999) : X (d + 2) m_F_weightOfSet 0 [some (vr 20 i0), some (vi set), none, none] [] (MM sc I J) Q ↔ Q (some (vi (wSF (I 21 i0) (I 22 i0) set n))) (MM sc I J) := by
  rw [b_F_weightOfSet_0]
  exact l_F_wos hset hn hs hL n 0 (by omega)
theorem l_D_wos {n : Nat} {set : Int} (hset : 0 ≤ set ∧ set < 64) (hn : n ≤ 6) (hs : I 39 0 4 = n) (hd : ∀ j, j < n → dg3 (I 46 0) j) : ∀ (m j : Nat), j + m = n → (X (d + 2) m_D_weightsOf 4 [some (vr 39 0), some (vi set), some (vi (wSF (I 45 0) (lf3 (I 46 0)) set j)), some (vi (j : Int))] [] (MM sc I J) Q ↔ Q (some (vi (wSF (I 45 0) (lf3 (I 46 0)) set n))) (MM sc I J))
  | 0, j, e => by
    have e1 : j = n := by omega
    subst e1
    rw [b_D_weightsOf_4, hs, if_pos (by omega), b_D_weightsOf_39]
  | m + 1, j, e => by
    have bo : i_and (i_shr set (j : Int)) 1 = bs set j := by unfold bs bt; rw [if_pos (by omega)]
    have hj := wSF_in (K := I 45 0) (L := lf3 (I 46 0)) (set := set) (fun j hj => lf3_in (hd j hj)) j (by omega)
    have hw := wtK_in (k := I 45 0 j) (lf3_in (hd j (by omega)))
    rw [b_D_weightsOf_4, hs, if_neg (by omega), b_D_weightsOf_12, bo, b_D_weightsOf_22, s_D_weightOf (by omega) (hd j (by omega)), ap_s, b_D_weightsOf_27, b_D_weightsOf_30, b_D_weightsOf_31, b_D_weightsOf_31, show tg (lf3 (I 46 0) j) + (if I 45 0 j = 1 ∨ I 45 0 j = 4 then 1 else 0) = wtK (I 45 0 j) (lf3 (I 46 0) j) from rfl, w32_eq (x := wSF (I 45 0) (lf3 (I 46 0)) set j + wtK (I 45 0 j) (lf3 (I 46 0) j)) (by omega) (by omega), w32_eq (x := wSF (I 45 0) (lf3 (I 46 0)) set j + 0) (by omega) (by omega), wsuc (by omega)]
    rw [← l_D_wos hset hn hs hd m (j + 1) (by omega)]
    rw [wSF]
    by_cases z : bs set j = 1
    · rw [if_pos z, if_pos z]
    · rw [if_neg z, if_neg z]
theorem s_D_wos {n : Nat} {set : Int} (hset : 0 ≤ set ∧ set < 64) (hn : n ≤ 6) (hs : I 39 0 4 = n) (hd : ∀ j, j < n → dg3 (I 46 0) j) : X (d + 2) m_D_weightsOf 0 [some (vr 39 0), some (vi set), none, none] [] (MM sc I J) Q ↔ Q (some (vi (wSF (I 45 0) (lf3 (I 46 0)) set n))) (MM sc I J) := by
  rw [b_D_weightsOf_0]
  exact l_D_wos hset hn hs hd n 0 (by omega)
end TW
