/-! BOATS, the class and the reference -/
theorem nz {x : Nat} : ((x : Int) = 0) ↔ x = 0 := by omega
theorem upF_2 {f : Nat → Int} {p : Nat} {v w : Int} : upF (upF f p v) p w = upF f p w := by
  funext q
  show (if q = p then w else if q = p then v else f q) = if q = p then w else f q
  by_cases h : q = p
  · rw [if_pos h, if_pos h]
  · rw [if_neg h, if_neg h, if_neg h]
def hvF (K L : Nat → Int) : Nat → Int
  | 0 => 0
  | j + 1 => if hvF K L j < wtK (K j) (L j) then wtK (K j) (L j) else hvF K L j
theorem hv_le {K L : Nat → Int} {lo : Int} (h0 : 0 ≤ lo) : ∀ n : Nat, hvF K L n ≤ lo ↔ ∀ j, j < n → wtK (K j) (L j) ≤ lo
  | 0 => ⟨fun _ j hj => by omega, fun _ => h0⟩
  | n + 1 => by
    have ih := hv_le (K := K) (L := L) h0 n
    unfold hvF
    constructor
    · intro h j hj
      by_cases z : hvF K L n < wtK (K n) (L n)
      · rw [if_pos z] at h
        by_cases e : j = n
        · subst e; exact h
        · exact ih.mp (by omega) j (by omega)
      · rw [if_neg z] at h
        by_cases e : j = n
        · subst e; omega
        · exact ih.mp h j (by omega)
    · intro h
      have a := h n (by omega)
      have b := ih.mpr (fun j hj => h j (by omega))
      split <;> omega
section BC
variable {d : Nat} {Q : Option AV → AMem → Prop} {sc : SC} {I J : TI}
theorem l_F_hv {i0 n : Nat} (hn : n ≤ 6) (hs : I 20 i0 7 = n) (hL : ∀ j, j < n → 0 ≤ I 22 i0 j ∧ I 22 i0 j ≤ 999) : ∀ (m j : Nat), j + m = n → (X (d + 2) m_F_heaviest 4 [some (vr 20 i0), some (vi (hvF (I 21 i0) (I 22 i0) j)), some (vi (j : Int))] [] (MM sc I J) Q ↔ Q (some (vi (hvF (I 21 i0) (I 22 i0) n))) (MM sc I J))
  | 0, j, e => by
    have e1 : j = n := by omega
    subst e1
    rw [b_F_heaviest_4, hs, if_pos (by omega), b_F_heaviest_38]
  | m + 1, j, e => by
    rw [b_F_heaviest_4, hs, if_neg (by omega), b_F_heaviest_12, and_iff_right (by omega), Int.toNat_natCast, b_F_heaviest_19, and_iff_right (by omega), Int.toNat_natCast, b_F_heaviest_25, s_K_weightOf (hL j (by omega)).1 (hL j (by omega)).2, ap_s, b_F_heaviest_28, wsuc (by omega)]
    exact l_F_hv hn hs hL m (j + 1) (by omega)
theorem s_C_isBoat {b ib s n : Nat} {lo : Int} (hb : b < 64) (hib : ib < 64) (hs : s < 64) (hn : n ≤ 6) (hz : I 20 0 7 = n) (hL : ∀ j, j < n → 0 ≤ I 22 0 j ∧ I 22 0 j ≤ 999) : X (d + 3) m_C_isBoat 0 [some (vr 0 0), some (vi (b : Int)), some (vi (ib : Int)), some (vi (s : Int)), some (vi lo)] [] (MM sc I J) Q ↔ Q (some (vi (b2 (b &&& ib ≠ 0 ∧ b &&& s = b ∧ wSF (I 21 0) (I 22 0) b n ≤ lo)))) (MM sc I J) := by
  have sb := sb_i hb hs
  rw [b_C_isBoat_0, an_i hb hib, b_C_isBoat_6, sd_i hb hs, b_C_isBoat_14, s_F_wos (by omega) hn hz hL, ap_s, b_C_isBoat_22, b_C_isBoat_27, b_C_isBoat_31, b_C_isBoat_32, b_C_isBoat_32]
  by_cases c1 : b &&& ib = 0
  · rw [if_pos (nz.mpr c1), b2_f (fun z => z.1 c1), and_iff_right (Or.inl rfl)]
  · rw [if_neg (fun z => c1 (nz.mp z))]
    by_cases c2 : b &&& s = b
    · rw [if_pos (nz.mpr (sb.mpr c2))]
      by_cases c3 : wSF (I 21 0) (I 22 0) b n ≤ lo
      · rw [if_neg (by omega), b2_t ⟨c1, c2, c3⟩, and_iff_right (Or.inr rfl)]
      · rw [if_pos (by omega), b2_f (fun z => c3 z.2.2), and_iff_right (Or.inl rfl)]
    · rw [if_neg (fun z => c2 (sb.mp (nz.mp z))), b2_f (fun z => c2 z.2.1), and_iff_right (Or.inl rfl)]
theorem l_C_fb {s n : Nat} {lo : Int} (hs1 : 1 ≤ s) (hs : s < 64) (hn : n ≤ 6) (hz : I 20 0 7 = n) (hL : ∀ j, j < n → 0 ≤ I 22 0 j ∧ I 22 0 j ≤ 999) (hT : ∀ q, q < s → 0 ≤ I 13 0 q ∧ I 13 0 q ≤ 7) (hQ : ∀ v, mnB (P1 (fun q => wSF (I 21 0) (I 22 0) q n) lo s) (fun b => I 13 0 (sd s b) + 1) 7 v (s + 1) → Q (some (vi v)) (MM sc I J)) : ∀ (k m : Nat) (v : Int), m + k = s + 1 → 1 ≤ m → mnB (P1 (fun q => wSF (I 21 0) (I 22 0) q n) lo s) (fun b => I 13 0 (sd s b) + 1) 7 v m → X (d + 4) m_C_fewestBoatsOf 12 [some (vr 0 0), some (vi (s : Int)), some (vi lo), some (vi v), some (vi ((lb s : Nat) : Int)), some (vi (m : Int))] [] (MM sc I J) Q
  | 0, m, v, e, h1, hv => by
    have e1 : m = s + 1 := by omega
    subst e1
    rw [b_C_fewestBoatsOf_12, if_pos (by omega), b_C_fewestBoatsOf_55]
    exact hQ v hv
  | k + 1, m, v, e, h1, hv => by
    have L := lb_p hs (by omega)
    have m64 : m < 64 := by omega
    rw [b_C_fewestBoatsOf_12, if_neg (by omega), b_C_fewestBoatsOf_18, s_C_isBoat m64 L.2.2.2.1 hs hn hz hL, ap_s, b_C_fewestBoatsOf_28]
    by_cases p : m &&& lb s ≠ 0 ∧ m &&& s = m ∧ wSF (I 21 0) (I 22 0) m n ≤ lo
    · have sl := sd_lt hs m64
      have t := hT (sd s m) (sb_lt m64 hs p.2.1 (by omega)).2
      have wq : w32 (1 + I 13 0 (sd s m)) = I 13 0 (sd s m) + 1 := by rw [w32_eq (by omega) (by omega)]; omega
      rw [b2_t p, if_neg (by decide), b_C_fewestBoatsOf_31, sd_i hs m64, and_iff_right (by omega), Int.toNat_natCast, b_C_fewestBoatsOf_44, wq, b_C_fewestBoatsOf_49, wsuc (by omega)]
      exact l_C_fb hs1 hs hn hz hL hT hQ k (m + 1) _ (by omega) (by omega) (mn_yes h1 hv p)
    · rw [b2_f p, if_pos rfl, b_C_fewestBoatsOf_49, wsuc (by omega)]
      exact l_C_fb hs1 hs hn hz hL hT hQ k (m + 1) v (by omega) (by omega) (mn_no hv p)
theorem l_C_bt {n A : Nat} {lo : Int} (hA : A + 1 = 2 ^ n) (hn : n ≤ 6) (hz : I 20 0 7 = n) (hL : ∀ j, j < n → 0 ≤ I 22 0 j ∧ I 22 0 j ≤ 999) (hQ : ∀ T : Nat → Int, tbB (P1 (fun q => wSF (I 21 0) (I 22 0) q n) lo) 7 T (A + 1) → X (d + 5) m_C_boats 81 [some (vr 0 0), some (vi lo), some (vi (A : Int)), some (vi ((A + 1 : Nat) : Int))] [] (MM sc (up2 I 13 0 T) J) Q) : ∀ (k s : Nat) (T : Nat → Int), s + k = A + 1 → 1 ≤ s → tbB (P1 (fun q => wSF (I 21 0) (I 22 0) q n) lo) 7 T s → X (d + 5) m_C_boats 58 [some (vr 0 0), some (vi lo), some (vi (A : Int)), some (vi (s : Int))] [] (MM sc (up2 I 13 0 T) J) Q
  | 0, s, T, e, h1, hT => by
    have e1 : s = A + 1 := by omega
    subst e1
    rw [b_C_boats_58, if_pos (by omega)]
    exact hQ T hT
  | k + 1, s, T, e, h1, hT => by
    have hp := pow_in hn
    have s64 : s < 64 := by omega
    rw [b_C_boats_58, if_neg (by omega), b_C_boats_63, b_C_fewestBoatsOf_0, lb_i s64]
    refine l_C_fb (I := up2 I 13 0 T) (n := n) h1 s64 hn hz hL (fun q hq => tb_in sbP1 (by decide) (by omega) hT q hq) (fun v hv => ?_) s 1 7 (by omega) (Nat.le_refl _) (mn_0 _ _ _)
    rw [ap_s, b_C_boats_74, and_iff_right (by omega), Int.toNat_natCast, up2_up, b_C_boats_75, wsuc (by omega)]
    exact l_C_bt hA hn hz hL hQ k (s + 1) _ (by omega) (by omega) (tb_step sbP1 s64 h1 hT hv)
theorem l_C_first {n A b0 : Nat} {lo : Int} (hA : A + 1 = 2 ^ n) (hn : n ≤ 6) (hz : I 20 0 7 = n) (hL : ∀ j, j < n → 0 ≤ I 22 0 j ∧ I 22 0 j ≤ 999) (hT : ∀ q, q < A + 1 → 0 ≤ I 13 0 q ∧ I 13 0 q ≤ 7) (hb : b0 ≤ A) (hF : b0 % 2 = 1 ∧ wSF (I 21 0) (I 22 0) b0 n ≤ lo ∧ I 13 0 (sd A b0) + 1 = I 13 0 A) (hN : ∀ b, b < b0 → ¬ (b % 2 = 1 ∧ wSF (I 21 0) (I 22 0) b n ≤ lo ∧ I 13 0 (sd A b) + 1 = I 13 0 A)) : ∀ (k m : Nat), m + k = b0 → 1 ≤ m → (X (d + 4) m_C_firstBoat 2 [some (vr 0 0), some (vi (A : Int)), some (vi lo), some (vi (m : Int))] [] (MM sc I J) Q ↔ Q (some (vi (b0 : Int))) (MM sc I J)) := by
  have hp := pow_in hn
  have A64 : A < 64 := by omega
  have sub : ∀ m, m ≤ A → m &&& A = m := fun m hm => by
    have : A = 2 ^ n - 1 := by omega
    rw [this, Nat.and_two_pow_sub_one_eq_mod, Nat.mod_eq_of_lt (by omega)]
  have st : ∀ m : Nat, 1 ≤ m → m ≤ A → (X (d + 4) m_C_firstBoat 2 [some (vr 0 0), some (vi (A : Int)), some (vi lo), some (vi (m : Int))] [] (MM sc I J) Q ↔ if m % 2 = 1 ∧ wSF (I 21 0) (I 22 0) m n ≤ lo ∧ I 13 0 (sd A m) + 1 = I 13 0 A then Q (some (vi (m : Int))) (MM sc I J) else X (d + 4) m_C_firstBoat 2 [some (vr 0 0), some (vi (A : Int)), some (vi lo), some (vi ((m + 1 : Nat) : Int))] [] (MM sc I J) Q) := by
    intro m m1 mA
    have m64 : m < 64 := by omega
    have ib := s_C_isBoat (d := d) (sc := sc) (I := I) (J := J) (b := m) (ib := 1) (s := A) (n := n) (lo := lo) (Q := fun r mm => X (d + 4) m_C_firstBoat 15 [some (vr 0 0), some (vi (A : Int)), some (vi lo), some (vi (m : Int))] (r.toList ++ []) mm Q) m64 (by decide) A64 hn hz hL
    rw [b_C_firstBoat_2, if_neg (by omega), b_C_firstBoat_7]
    refine ib.trans ?_
    rw [ap_s, b_C_firstBoat_15]
    by_cases p : m % 2 = 1 ∧ wSF (I 21 0) (I 22 0) m n ≤ lo
    · have p' : m &&& 1 ≠ 0 ∧ m &&& A = m ∧ wSF (I 21 0) (I 22 0) m n ≤ lo := ⟨by rw [Nat.and_one_is_mod]; omega, sub m mA, p.2⟩
      have sl := sd_lt A64 m64
      have se := sd_le A64 m64
      have t := hT (sd A m) (by omega)
      rw [b2_t p', if_neg (by decide), b_C_firstBoat_18, sd_i A64 m64, and_iff_right (by omega), Int.toNat_natCast, b_C_firstBoat_28, and_iff_right (by omega), Int.toNat_natCast, w32_eq (by omega) (by omega), b_C_firstBoat_36, b_C_firstBoat_39, b_C_firstBoat_41, wsuc (by omega)]
      by_cases q : I 13 0 (sd A m) + 1 = I 13 0 A
      · rw [if_pos q, if_pos ⟨p.1, p.2, q⟩]
      · rw [if_neg q, if_neg (fun z => q z.2.2)]
    · have p' : ¬ (m &&& 1 ≠ 0 ∧ m &&& A = m ∧ wSF (I 21 0) (I 22 0) m n ≤ lo) := fun z => p ⟨by have := z.1; rw [Nat.and_one_is_mod] at this; omega, z.2.2⟩
      rw [b2_f p', if_pos rfl, b_C_firstBoat_41, wsuc (by omega), if_neg (fun z => p ⟨z.1, z.2.1⟩)]
  intro k
  induction k with
  | zero =>
    intro m e m1
    have e1 : m = b0 := by omega
    subst e1
    rw [st m m1 hb, if_pos hF]
  | succ k ih =>
    intro m e m1
    rw [st m m1 (by omega), if_neg (hN m (by omega))]
    exact ih (m + 1) (by omega) (by omega)
end BC
