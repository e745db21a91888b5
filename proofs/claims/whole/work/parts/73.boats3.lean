/-! BOATS, the reference -/
section BD
variable {d : Nat} {Q : Option AV → AMem → Prop} {sc : SC} {I J : TI}
theorem l_D_hv {n : Nat} {lo x2 : Int} (hn : n ≤ 6) (hs : I 39 0 4 = n) (hd : ∀ j, j < n → dg3 (I 46 0) j) (hq0 : (¬ ∀ j, j < n → wtK (I 45 0 j) (lf3 (I 46 0) j) ≤ lo) → Q (some (vi (-9))) (MM sc I J)) (hq1 : (∀ j, j < n → wtK (I 45 0 j) (lf3 (I 46 0) j) ≤ lo) → X (d + 3) m_D_boats 59 [some (vr 39 0), some (vi lo), some (vi x2), some (vi (n : Int)), none] [] (MM sc I J) Q) : ∀ (m j : Nat), j + m = n → (∀ q, q < j → wtK (I 45 0 q) (lf3 (I 46 0) q) ≤ lo) → X (d + 3) m_D_boats 33 [some (vr 39 0), some (vi lo), some (vi x2), some (vi (j : Int)), none] [] (MM sc I J) Q
  | 0, j, e, hj => by
    have e1 : j = n := by omega
    subst e1
    rw [b_D_boats_33, hs, if_pos (by omega)]
    exact hq1 hj
  | m + 1, j, e, hj => by
    rw [b_D_boats_33, hs, if_neg (by omega), b_D_boats_41, s_D_weightOf (by omega) (hd j (by omega)), ap_s, b_D_boats_46, b_D_boats_50, b_D_boats_53, wsuc (by omega)]
    show if wtK (I 45 0 j) (lf3 (I 46 0) j) ≤ lo then _ else _
    by_cases z : wtK (I 45 0 j) (lf3 (I 46 0) j) ≤ lo
    · rw [if_pos z]
      refine l_D_hv hn hs hd hq0 hq1 m (j + 1) (by omega) (fun q hq => ?_)
      by_cases y : q = j
      · subst y; exact z
      · exact hj q (by omega)
    · rw [if_neg z]
      exact hq0 (fun y => z (y j (by omega)))
theorem l_D_fb {s n : Nat} {lo x2 : Int} {T : Nat → Int} (hs1 : 1 ≤ s) (hs : s < 64) (hn : n ≤ 6) (hz : I 39 0 4 = n) (hd : ∀ j, j < n → dg3 (I 46 0) j) (hT : ∀ q, q < s → 0 ≤ T q ∧ T q ≤ 99) (hQ : ∀ v, mnB (P2 (fun q => wSF (I 45 0) (lf3 (I 46 0)) q n) lo s) (fun b => T (sd s b) + 1) 99 v (s + 1) → X (d + 3) m_D_boats 156 [some (vr 39 0), some (vi lo), some (vi x2), some (vi (s : Int)), some (vi ((s + 1 : Nat) : Int))] [] (MM sc (up2 I 62 0 (upF T s v)) J) Q) : ∀ (k m : Nat) (v : Int), m + k = s + 1 → 1 ≤ m → mnB (P2 (fun q => wSF (I 45 0) (lf3 (I 46 0)) q n) lo s) (fun b => T (sd s b) + 1) 99 v m → X (d + 3) m_D_boats 84 [some (vr 39 0), some (vi lo), some (vi x2), some (vi (s : Int)), some (vi (m : Int))] [] (MM sc (up2 I 62 0 (upF T s v)) J) Q
  | 0, m, v, e, h1, hv => by
    have e1 : m = s + 1 := by omega
    subst e1
    rw [b_D_boats_84, if_pos (by omega)]
    exact hQ v hv
  | k + 1, m, v, e, h1, hv => by
    have m64 : m < 64 := by omega
    have sb := sb_i m64 hs
    rw [b_D_boats_84, if_neg (by omega), b_D_boats_90, sd_i m64 hs]
    by_cases c1 : m &&& s = m
    · have sl := sd_lt hs m64
      have lt := (sb_lt m64 hs c1 (by omega)).2
      have t := hT (sd s m) lt
      have wo := s_D_wos (d := d) (sc := sc) (I := up2 I 62 0 (upF T s v)) (J := J) (n := n) (set := (m : Int)) (Q := fun r mm => X (d + 3) m_D_boats 105 [some (vr 39 0), some (vi lo), some (vi x2), some (vi (s : Int)), some (vi (m : Int))] (r.toList ++ []) mm Q) (by omega) hn hz hd
      rw [if_pos (nz.mpr (sb.mpr c1)), b_D_boats_99]
      refine wo.mpr ?_
      rw [ap_s, b_D_boats_105]
      show if lo < wSF (I 45 0) (lf3 (I 46 0)) (m : Int) n then _ else _
      by_cases c2 : wSF (I 45 0) (lf3 (I 46 0)) m n ≤ lo
      · have r1 : up2 I 62 0 (upF T s v) 62 0 (sd s m) = T (sd s m) := by
          rw [up2_same]
          exact if_neg (by omega)
        have r2 : up2 I 62 0 (upF T s v) 62 0 s = v := by
          rw [up2_same]
          exact if_pos rfl
        rw [if_neg (by omega), b_D_boats_109, sd_i hs m64, and_iff_right (by omega), Int.toNat_natCast, r1, b_D_boats_120, and_iff_right (by omega), Int.toNat_natCast, r2, b_D_boats_128, w32_eq (by omega) (by omega)]
        have y := mn_yes h1 hv (show P2 (fun q => wSF (I 45 0) (lf3 (I 46 0)) q n) lo s m from ⟨c1, c2⟩)
        by_cases c3 : v ≤ T (sd s m) + 1
        · rw [if_neg (by omega)] at y
          rw [if_pos c3, b_D_boats_150, wsuc (by omega)]
          exact l_D_fb hs1 hs hn hz hd hT hQ k (m + 1) v (by omega) (by omega) y
        · rw [if_pos (by omega)] at y
          rw [if_neg c3, b_D_boats_131, sd_i hs m64, and_iff_right (by omega), Int.toNat_natCast, r1, b_D_boats_147, and_iff_right (by omega), Int.toNat_natCast, up2_up, upF_2, w32_eq (by omega) (by omega), b_D_boats_150, wsuc (by omega)]
          exact l_D_fb hs1 hs hn hz hd hT hQ k (m + 1) _ (by omega) (by omega) y
      · rw [if_pos (by omega), b_D_boats_150, wsuc (by omega)]
        exact l_D_fb hs1 hs hn hz hd hT hQ k (m + 1) v (by omega) (by omega) (mn_no hv (fun z => c2 z.2))
    · rw [if_neg (fun z => c1 (sb.mp (nz.mp z))), b_D_boats_150, wsuc (by omega)]
      exact l_D_fb hs1 hs hn hz hd hT hQ k (m + 1) v (by omega) (by omega) (mn_no hv (fun z => c1 z.1))
theorem l_D_bt {n A : Nat} {lo : Int} (hA : A + 1 = 2 ^ n) (hn : n ≤ 6) (hz : I 39 0 4 = n) (hd : ∀ j, j < n → dg3 (I 46 0) j) (hQ : ∀ (T : Nat → Int) (o : Option AV), tbB (P2 (fun q => wSF (I 45 0) (lf3 (I 46 0)) q n) lo) 99 T (A + 1) → X (d + 3) m_D_boats 162 [some (vr 39 0), some (vi lo), some (vi (A : Int)), some (vi ((A + 1 : Nat) : Int)), o] [] (MM sc (up2 I 62 0 T) J) Q) : ∀ (k s : Nat) (T : Nat → Int) (o : Option AV), s + k = A + 1 → 1 ≤ s → tbB (P2 (fun q => wSF (I 45 0) (lf3 (I 46 0)) q n) lo) 99 T s → X (d + 3) m_D_boats 68 [some (vr 39 0), some (vi lo), some (vi (A : Int)), some (vi (s : Int)), o] [] (MM sc (up2 I 62 0 T) J) Q
  | 0, s, T, o, e, h1, hT => by
    have e1 : s = A + 1 := by omega
    subst e1
    rw [b_D_boats_68, if_pos (by omega)]
    exact hQ T o hT
  | k + 1, s, T, o, e, h1, hT => by
    have hp := pow_in hn
    have s64 : s < 64 := by omega
    rw [b_D_boats_68, if_neg (by omega), b_D_boats_73, and_iff_right (by omega), Int.toNat_natCast, up2_up, b_D_boats_81]
    refine l_D_fb (T := T) (n := n) h1 s64 hn hz hd (fun q hq => tb_in sbP2 (by decide) (by omega) hT q hq) (fun v hv => ?_) s 1 99 (by omega) (Nat.le_refl _) (mn_0 _ _ _)
    rw [b_D_boats_156, wsuc (by omega)]
    exact l_D_bt hA hn hz hd hQ k (s + 1) _ _ (by omega) (by omega) (tb_step sbP2 s64 h1 hT hv)
theorem l_D_first {n A b0 : Nat} {lo : Int} {o : Option AV} (hA : A + 1 = 2 ^ n) (hn : n ≤ 6) (hz : I 39 0 4 = n) (hd : ∀ j, j < n → dg3 (I 46 0) j) (hT : ∀ q, q < A + 1 → 0 ≤ I 62 0 q ∧ I 62 0 q ≤ 99) (hb : b0 ≤ A) (hF : b0 % 2 = 1 ∧ wSF (I 45 0) (lf3 (I 46 0)) b0 n ≤ lo ∧ I 62 0 (sd A b0) + 1 = I 62 0 A) (hN : ∀ b, b < b0 → ¬ (b % 2 = 1 ∧ wSF (I 45 0) (lf3 (I 46 0)) b n ≤ lo ∧ I 62 0 (sd A b) + 1 = I 62 0 A)) : ∀ (k m : Nat), m + 2 * k = b0 → (X (d + 3) m_D_boats 164 [some (vr 39 0), some (vi lo), some (vi (A : Int)), some (vi (m : Int)), o] [] (MM sc I J) Q ↔ Q (some (vi (I 62 0 A))) (MM sc (upI I 39 0 12 (b0 : Int)) J)) := by
  have hp := pow_in hn
  have A64 : A < 64 := by omega
  have st : ∀ m : Nat, m % 2 = 1 → m ≤ A → (X (d + 3) m_D_boats 164 [some (vr 39 0), some (vi lo), some (vi (A : Int)), some (vi (m : Int)), o] [] (MM sc I J) Q ↔ if m % 2 = 1 ∧ wSF (I 45 0) (lf3 (I 46 0)) m n ≤ lo ∧ I 62 0 (sd A m) + 1 = I 62 0 A then Q (some (vi (I 62 0 A))) (MM sc (upI I 39 0 12 (m : Int)) J) else X (d + 3) m_D_boats 164 [some (vr 39 0), some (vi lo), some (vi (A : Int)), some (vi ((m + 2 : Nat) : Int)), o] [] (MM sc I J) Q) := by
    intro m mo mA
    have m64 : m < 64 := by omega
    have e2 : w32 ((m : Int) + 2) = ((m + 2 : Nat) : Int) := by rw [w32_eq (by omega) (by omega)]; omega
    have sl := sd_lt A64 m64
    have se := sd_le A64 m64
    have t := hT (sd A m) (by omega)
    rw [b_D_boats_164, s_D_wos (by omega) hn hz hd, ap_s, b_D_boats_169, b_D_boats_194, e2]
    by_cases p : wSF (I 45 0) (lf3 (I 46 0)) m n ≤ lo
    · rw [if_neg (by omega), b_D_boats_173, sd_i A64 m64, and_iff_right (by omega), Int.toNat_natCast, b_D_boats_183, and_iff_right (by omega), Int.toNat_natCast, w32_eq (by omega) (by omega), b_D_boats_191]
      by_cases q : I 62 0 (sd A m) + 1 = I 62 0 A
      · rw [if_pos q, if_pos ⟨mo, p, q⟩, b_D_boats_200, and_iff_right (by omega), Int.toNat_natCast, b_D_boats_208, s_D_tells, ap_s, b_D_boats_211]
      · rw [if_neg q, if_neg (fun z => q z.2.2), b_D_boats_194, e2]
    · rw [if_pos (by omega), if_neg (fun z => p z.2.1)]
  intro k
  induction k with
  | zero =>
    intro m e
    have e1 : m = b0 := by omega
    subst e1
    rw [st m hF.1 hb, if_pos hF]
  | succ k ih =>
    intro m e
    rw [st m (by omega) (by omega), if_neg (hN m (by omega))]
    exact ih (m + 2) (by omega)
end BD
