/-! DEEDS -/
theorem lf3_eq {f g : Nat → Int} {j : Nat} (hj : j < 6) (h : ∀ p, p < 25 → f p = g p) : lf3 f j = lf3 g j := by
  unfold lf3; rw [h _ (by omega), h _ (by omega), h _ (by omega)]
theorem okS_eq {n : Int} {f g : Nat → Int} (hn : n ≤ 6) (h : ∀ p, p < 25 → f p = g p) (ho : okS n g) : okS n f := by
  refine ⟨fun i hi => ?_, ?_⟩
  · rw [h (1 + 3 * i) (by omega), h (2 + 3 * i) (by omega), h (3 + 3 * i) (by omega), h (19 + i) (by omega)]; exact ho.1 i hi
  · rw [h 0 (by omega)]; exact ho.2
theorem iF_deed {n cr dd : Int} {lf bk dby la ba ca s : Nat → Int} {bo : Nat → Nat → Int} (hn : n ≤ 6) (h : iF n lf bk cr dd dby la ba ca s bo) {i D : Nat} (hi : (i : Int) < n) (hD : dd = D) (hD40 : D < 40) {cr' dd' : Int} {lf' bk' dby' la' ba' ca' s' : Nat → Int} {bo' : Nat → Nat → Int} (hd' : dd' = D + 1)
    (e1 : ∀ j : Nat, (j : Int) < n → j ≠ i → lf' j = lf j ∧ bk' j = bk j) (e2 : lf' i = lf3 s' i ∧ bk' i = s' (19 + i)) (ok : okS n s') (e3 : cr' = s' 0) (e4 : s' 0 ≤ s 0 + 1)
    (e5 : ∀ j : Nat, (j : Int) < n → j ≠ i → lf3 s' j = lf3 s j ∧ s' (19 + j) = s (19 + j))
    (e6 : ∀ k : Nat, k < D → dby' k = dby k ∧ la' k = la k ∧ ba' k = ba k ∧ ca' k = ca k ∧ ∀ p, p < 25 → bo' k p = bo k p)
    (e7 : dby' D = i ∧ la' D = lf i ∧ ba' D = bk i ∧ ca' D = cr ∧ ∀ p, p < 25 → bo' D p = s p) : iF n lf' bk' cr' dd' dby' la' ba' ca' s' bo' := by
  obtain ⟨h1, h2, h3, h4, h5, h6, h7⟩ := h
  refine ⟨ok, fun j hj => ?_, e3, by omega, by omega, by omega, fun k hk => ?_⟩
  · by_cases c : j = i
    · subst c; exact e2
    · rw [(e1 j hj c).1, (e1 j hj c).2, (h2 j hj).1, (h2 j hj).2, (e5 j hj c).1, (e5 j hj c).2]
      exact ⟨rfl, rfl⟩
  · by_cases c : k = D
    · subst c
      obtain ⟨a1, a2, a3, a4, a5⟩ := e7
      refine ⟨okS_eq hn a5 h1, by rw [a5 0 (by omega)]; omega, i, a1, hi, ?_, ?_, ?_, fun j hj hji => ?_⟩
      · rw [a2, (h2 i hi).1, lf3_eq (by omega) a5]
      · rw [a3, (h2 i hi).2, a5 (19 + i) (by omega)]
      · rw [a4, h3, a5 0 (by omega)]
      · rw [if_pos (by omega), lf3_eq (by omega) a5, a5 (19 + j) (by omega), (e5 j hj hji).1, (e5 j hj hji).2]
        exact ⟨rfl, rfl⟩
    · obtain ⟨o1, o2, b, o3, o4, o5, o6, o7, o8⟩ := h7 k (by omega)
      obtain ⟨a1, a2, a3, a4, a5⟩ := e6 k (by omega)
      refine ⟨okS_eq hn a5 o1, by rw [a5 0 (by omega)]; exact o2, b, by rw [a1]; exact o3, o4, ?_, ?_, ?_, fun j hj hjb => ?_⟩
      · rw [a2, o5, lf3_eq (by omega) a5]
      · rw [a3, o6, a5 _ (by omega)]
      · rw [a4, o7, a5 _ (by omega)]
      · have q := o8 j hj hjb
        rw [if_neg (by omega), lf3_eq (by omega) a5, a5 (19 + j) (by omega)]
        by_cases z : (k : Int) + 1 = dd
        · rw [if_pos z] at q
          have kd : k + 1 = D := by omega
          rw [kd, lf3_eq (by omega) e7.2.2.2.2, e7.2.2.2.2 (19 + j) (by omega)]
          exact q
        · rw [if_neg z] at q
          have a6 := (e6 (k + 1) (by omega)).2.2.2.2
          rw [lf3_eq (by omega) a6, a6 (19 + j) (by omega)]
          exact q
theorem iF_congr {n cr dd : Int} {lf bk dby la ba ca s : Nat → Int} {bo : Nat → Nat → Int} (hn : n ≤ 6) (h : iF n lf bk cr dd dby la ba ca s bo) {lf' bk' dby' la' ba' ca' s' : Nat → Int} {bo' : Nat → Nat → Int}
    (e1 : ∀ j : Nat, j < 6 → lf' j = lf j ∧ bk' j = bk j) (e5 : ∀ p, p < 25 → s' p = s p) (e6 : ∀ k : Nat, k < 40 → dby' k = dby k ∧ la' k = la k ∧ ba' k = ba k ∧ ca' k = ca k ∧ ∀ p, p < 25 → bo' k p = bo k p) : iF n lf' bk' cr dd dby' la' ba' ca' s' bo' := by
  obtain ⟨h1, h2, h3, h4, h5, h6, h7⟩ := h
  refine ⟨okS_eq hn e5 h1, fun j hj => ?_, by rw [e5 0 (by omega)]; exact h3, h4, h5, by rw [e5 0 (by omega)]; exact h6, fun k hk => ?_⟩
  · rw [(e1 j (by omega)).1, (e1 j (by omega)).2, (h2 j hj).1, (h2 j hj).2, lf3_eq (by omega) e5, e5 _ (by omega)]
    exact ⟨rfl, rfl⟩
  · obtain ⟨o1, o2, b, o3, o4, o5, o6, o7, o8⟩ := h7 k (by omega)
    obtain ⟨a1, a2, a3, a4, a5⟩ := e6 k (by omega)
    refine ⟨okS_eq hn a5 o1, by rw [a5 0 (by omega)]; exact o2, b, by rw [a1]; exact o3, o4, ?_, ?_, ?_, fun j hj hjb => ?_⟩
    · rw [a2, o5, lf3_eq (by omega) a5]
    · rw [a3, o6, a5 _ (by omega)]
    · rw [a4, o7, a5 _ (by omega)]
    · have q := o8 j hj hjb
      rw [lf3_eq (by omega) a5, a5 (19 + j) (by omega)]
      by_cases z : (k : Int) + 1 = dd
      · rw [if_pos z] at q ⊢
        rw [lf3_eq (by omega) e5, e5 (19 + j) (by omega)]
        exact q
      · rw [if_neg z] at q ⊢
        have a6 := (e6 (k + 1) (by omega)).2.2.2.2
        rw [lf3_eq (by omega) a6, a6 (19 + j) (by omega)]
        exact q
def stU (s : Nat → Int) (bo : Nat → Nat → Int) (D k : Nat) : Nat → Int := if k = D then s else bo k
theorem iF_undo {n cr dd : Int} {lf bk dby la ba ca s : Nat → Int} {bo : Nat → Nat → Int} (hn : n ≤ 6) (h : iF n lf bk cr dd dby la ba ca s bo) {N D : Nat} (hD : dd = D) (hN : N ≤ D) {lf' bk' s' : Nat → Int} {cr' dd' : Int} (hd' : dd' = N)
    (e1 : ∀ j : Nat, (j : Int) < n → lf' j = lf3 (stU s bo D N) j ∧ bk' j = stU s bo D N (19 + j)) (e3 : cr' = stU s bo D N 0) (e5 : ∀ p, p < 25 → s' p = stU s bo D N p) : iF n lf' bk' cr' dd' dby la ba ca s' bo := by
  obtain ⟨h1, h2, h3, h4, h5, h6, h7⟩ := h
  have ok : okS n (stU s bo D N) ∧ stU s bo D N 0 ≤ N := by
    unfold stU
    by_cases c : N = D
    · rw [if_pos c]; exact ⟨h1, by omega⟩
    · rw [if_neg c]
      have := h7 N (by omega)
      exact ⟨this.1, this.2.1⟩
  refine ⟨okS_eq hn e5 ok.1, fun j hj => ?_, by rw [e5 0 (by omega)]; exact e3, by omega, by omega, by rw [e5 0 (by omega)]; have := ok.2; omega, fun k hk => ?_⟩
  · rw [(e1 j hj).1, (e1 j hj).2, lf3_eq (by omega) e5, e5 _ (by omega)]
    exact ⟨rfl, rfl⟩
  · obtain ⟨o1, o2, b, o3, o4, o5, o6, o7, o8⟩ := h7 k (by omega)
    refine ⟨o1, o2, b, o3, o4, o5, o6, o7, fun j hj hjb => ?_⟩
    have q := o8 j hj hjb
    by_cases z : (k : Int) + 1 = dd'
    · rw [if_pos z, lf3_eq (by omega) e5, e5 (19 + j) (by omega)]
      unfold stU
      have kN : k + 1 = N := by omega
      by_cases c : N = D
      · rw [if_pos c]
        rw [if_pos (by omega)] at q
        exact q
      · rw [if_neg c, ← kN]
        rw [if_neg (by omega)] at q
        exact q
    · rw [if_neg z]
      rw [if_neg (by omega)] at q
      exact q
section DE
variable {d : Nat} {Q : Option AV → AMem → Prop} {sc : SC} {I J : TI}
theorem inv_F {I' : TI} (h : Inv I J) (fr : ∀ t i p : Nat, (t = 20 → i = 0 → p ≠ 8 ∧ p ≠ 9) → (22 ≤ t → t ≤ 27 → i ≠ 0) → t ≠ 46 → t ≠ 48 → (t = 39 → p ≠ 9) → I' t i p = I t i p) (e9 : I' 20 0 9 = I' 39 0 9) (hF : iF (I 39 0 4) (I' 22 0) (I' 23 0) (I' 20 0 8) (I' 39 0 9) (I' 24 0) (I' 25 0) (I' 26 0) (I' 27 0) (I' 46 0) (bo0 (I' 48 0) 0)) : Inv I' J := by
  have ft : ∀ t : Nat, t ≠ 20 → ¬ (22 ≤ t ∧ t ≤ 27) → t ≠ 46 → t ≠ 48 → t ≠ 39 → I' t = I t := fun t h1 h2 h3 h4 h5 => by
    funext i p
    exact fr t i p (by omega) (by omega) h3 h4 (by omega)
  have fi : ∀ t i : Nat, i ≠ 0 → t ≠ 46 → t ≠ 48 → t ≠ 39 → I' t i = I t i := fun t i h1 h2 h3 h4 => by
    funext p
    exact fr t i p (by omega) (by omega) h2 h3 (by omega)
  have f1 : ∀ p, p ≠ 9 → I' 39 0 p = I 39 0 p := fun p hp => fr 39 0 p (by omega) (by omega) (by omega) (by omega) (by omega)
  obtain ⟨g1, g2, g3, g4, g5, g6⟩ := h
  refine ⟨?_, ?_, ?_, ?_, ?_, ?_⟩
  · rw [ft 28 (by omega) (by omega) (by omega) (by omega) (by omega), ft 29 (by omega) (by omega) (by omega) (by omega) (by omega), ft 40 (by omega) (by omega) (by omega) (by omega) (by omega), ft 41 (by omega) (by omega) (by omega) (by omega) (by omega)]
    exact g1
  · rw [ft 28 (by omega) (by omega) (by omega) (by omega) (by omega), ft 29 (by omega) (by omega) (by omega) (by omega) (by omega), ft 42 (by omega) (by omega) (by omega) (by omega) (by omega), ft 43 (by omega) (by omega) (by omega) (by omega) (by omega)]
    exact g2
  · rw [f1 4 (by omega), fr 20 0 7 (by omega) (by omega) (by omega) (by omega) (by omega), ft 21 (by omega) (by omega) (by omega) (by omega) (by omega), ft 45 (by omega) (by omega) (by omega) (by omega) (by omega)]
    exact g3
  · rw [f1 4 (by omega)]
    exact ⟨e9, hF⟩
  · intro k hk
    have := g5 k hk
    rw [f1 4 (by omega), fi 20 (1 + k) (by omega) (by omega) (by omega) (by omega), fi 22 (1 + k) (by omega) (by omega) (by omega) (by omega), fi 23 (1 + k) (by omega) (by omega) (by omega) (by omega), fi 24 (1 + k) (by omega) (by omega) (by omega) (by omega), fi 25 (1 + k) (by omega) (by omega) (by omega) (by omega), fi 26 (1 + k) (by omega) (by omega) (by omega) (by omega), fi 27 (1 + k) (by omega) (by omega) (by omega) (by omega), ft 21 (by omega) (by omega) (by omega) (by omega) (by omega), ft 45 (by omega) (by omega) (by omega) (by omega) (by omega), ft 50 (by omega) (by omega) (by omega) (by omega) (by omega), ft 51 (by omega) (by omega) (by omega) (by omega) (by omega)]
    exact this
  · rw [f1 15 (by omega), f1 12 (by omega), ft 0 (by omega) (by omega) (by omega) (by omega) (by omega), ft 5 (by omega) (by omega) (by omega) (by omega) (by omega), ft 56 (by omega) (by omega) (by omega) (by omega) (by omega)]
    exact g6
def nd (I : TI) (i D : Nat) : TI := upI (upI (upI (upI (upI I 24 0 D i) 25 0 D (I 22 0 i)) 26 0 D (I 23 0 i)) 27 0 D (I 20 0 8)) 20 0 9 ((D + 1 : Nat) : Int)
theorem s_F_noteDeed {i D : Nat} (hi : i < 6) (hD : I 20 0 9 = D) (hD40 : D < 40) : X d m_F_noteDeed 0 [some (vr 20 0), some (vi (i : Int))] [] (MM sc I J) Q ↔ Q none (MM sc (nd I i D) J) := by
  have i0 : (0 : Int) ≤ i := by omega
  have i6 : (i : Int) < 6 := by omega
  have D0 : (0 : Int) ≤ D := by omega
  have D1 : (D : Int) < 40 := by omega
  have D2 : ¬ 40 ≤ (D : Int) := by omega
  simp only [b_F_noteDeed_0, b_F_noteDeed_9, b_F_noteDeed_19, b_F_noteDeed_33, b_F_noteDeed_34, b_F_noteDeed_48, b_F_noteDeed_49, b_F_noteDeed_62, b_F_noteDeed_72, rd_up, Nat.reduceEqDiff, false_and, and_false, if_false, hD, i0, i6, D0, D1, D2, i10, ap_s, ap_n, and_self, and_true, true_and, if_true, if_false, not_true_eq_false, not_false_eq_true, Int.toNat_natCast, wsuc (show D ≤ 100000 by omega)]
  exact Iff.rfl
theorem s_F_hasRoomFor {D : Nat} {n : Int} (hD : I 20 0 9 = D) (hD40 : D ≤ 40) : X d m_F_hasRoomFor 0 [some (vr 20 0), some (vi n)] [] (MM sc I J) Q ↔ Q (some (vi (if n ≤ 40 - (D : Int) then 1 else 0))) (MM sc I J) := by
  rw [b_F_hasRoomFor_0, hD, w32_eq (by omega) (by omega), b_F_hasRoomFor_15, b_F_hasRoomFor_11, b_F_hasRoomFor_16, b_F_hasRoomFor_16]
  (repeat' split) <;> first | (simp; done) | (exfalso; omega)
theorem s_F_takeOver0 {i D : Nat} {c : Int} (hi : i < 6) (hD : I 20 0 9 = D) (hD40 : D < 40) (h1 : 0 ≤ c) (h2 : c ≤ 6) (hL : 0 ≤ I 22 0 i) (hL2 : I 22 0 i ≤ 999) (hn : 0 ≤ I 20 0 8) (hn2 : I 20 0 8 ≤ 1000) (q : ld (I 21 0 i) (I 22 0 i) c (I 20 0 8) = -1) : X (d + 3) m_F_takeOver 0 [some (vr 20 0), some (vi (i : Int)), some (vi c), none] [] (MM sc I J) Q ↔ Q (some (vi 0)) (MM sc (upI (nd I i D) 20 0 8 (I 20 0 8 + 1)) J) := by
  have i0 : (0 : Int) ≤ i := by omega
  have i6 : (i : Int) < 6 := by omega
  have r20 : nd I i D 20 0 8 = I 20 0 8 := rfl
  have r21 : nd I i D 21 = I 21 := rfl
  have r22 : nd I i D 22 = I 22 := rfl
  simp only [b_F_takeOver_0, b_F_takeOver_5, b_F_takeOver_11, b_F_takeOver_17, b_F_takeOver_25, b_F_takeOver_36, b_F_takeOver_41, b_F_takeOver_43, b_F_takeOver_50, b_F_takeOver_62, b_F_takeOver_64, s_F_noteDeed hi hD hD40, r20, r21, r22, s_K_landing h1 h2 hL hL2 hn, q, i0, i6, i10, ap_s, ap_n, and_self, and_true, true_and, if_true, if_false, not_true_eq_false, not_false_eq_true, Int.toNat_natCast, w32_eq (show -2147483648 ≤ I 20 0 8 + 1 by omega) (show I 20 0 8 + 1 ≤ 2147483647 by omega)]
theorem s_F_takeOver1 {i D : Nat} {c : Int} (hi : i < 6) (hD : I 20 0 9 = D) (hD40 : D < 40) (h1 : 0 ≤ c) (h2 : c ≤ 6) (hL : 0 ≤ I 22 0 i) (hL2 : I 22 0 i ≤ 999) (hn : 0 ≤ I 20 0 8) (hn2 : I 20 0 8 ≤ 1000) (hb : I 23 0 i = 0 ∨ I 23 0 i = 1) (q : ¬ ld (I 21 0 i) (I 22 0 i) c (I 20 0 8) = -1) : X (d + 3) m_F_takeOver 0 [some (vr 20 0), some (vi (i : Int)), some (vi c), none] [] (MM sc I J) Q ↔ Q (some (vi 1)) (MM sc (upI (upI (upI (nd I i D) 20 0 8 (I 20 0 8 + 1)) 22 0 i (ld (I 21 0 i) (I 22 0 i) c (I 20 0 8))) 23 0 i (1 - I 23 0 i)) J) := by
  have i0 : (0 : Int) ≤ i := by omega
  have i6 : (i : Int) < 6 := by omega
  have r20 : nd I i D 20 0 8 = I 20 0 8 := rfl
  have r21 : nd I i D 21 = I 21 := rfl
  have r22 : nd I i D 22 = I 22 := rfl
  have r23 : ∀ v w, upI (upI (nd I i D) 20 0 8 v) 22 0 i w 23 0 i = I 23 0 i := fun _ _ => rfl
  simp only [b_F_takeOver_0, b_F_takeOver_5, b_F_takeOver_11, b_F_takeOver_17, b_F_takeOver_25, b_F_takeOver_36, b_F_takeOver_41, b_F_takeOver_43, b_F_takeOver_50, b_F_takeOver_62, b_F_takeOver_64, s_F_noteDeed hi hD hD40, r20, r21, r22, s_K_landing h1 h2 hL hL2 hn, q, i0, i6, i10, ap_s, ap_n, and_self, and_true, true_and, if_true, if_false, not_true_eq_false, not_false_eq_true, Int.toNat_natCast, w32_eq (show -2147483648 ≤ I 20 0 8 + 1 by omega) (show I 20 0 8 + 1 ≤ 2147483647 by omega), r23, w32_eq (show -2147483648 ≤ 1 - I 23 0 i by omega) (show 1 - I 23 0 i ≤ 2147483647 by omega)]
theorem s_F_setByHand {i D : Nat} {t v : Int} (hi : i < 6) (hD : I 20 0 9 = D) (hD40 : D < 40) (hL : 0 ≤ I 22 0 i) (hL2 : I 22 0 i ≤ 999) (hv : 0 ≤ v ∧ v ≤ 9) : X (d + 2) m_F_setByHand 0 [some (vr 20 0), some (vi (i : Int)), some (vi t), some (vi v)] [] (MM sc I J) Q ↔ Q none (MM sc (upI (nd I i D) 22 0 i (I 22 0 i + (v - dg (I 22 0 i) t) * wth t)) J) := by
  have i0 : (0 : Int) ≤ i := by omega
  have i6 : (i : Int) < 6 := by omega
  have r22 : nd I i D 22 = I 22 := rfl
  have hd := dg_in (t := t) hL hL2
  have hw := wth_in t
  have hm : -900 ≤ (v - dg (I 22 0 i) t) * wth t ∧ (v - dg (I 22 0 i) t) * wth t ≤ 900 := by rcases hw with q | q | q <;> rw [q] <;> omega
  simp only [b_F_setByHand_0, b_F_setByHand_5, b_F_setByHand_12, b_F_setByHand_19, b_F_setByHand_23, b_F_setByHand_28, b_F_setByHand_31, s_F_noteDeed hi hD hD40, r22, s_L_thing hL hL2, s_L_worthOf, i0, i6, i10, ap_s, ap_n, and_self, and_true, true_and, if_true, if_false, not_true_eq_false, not_false_eq_true, Int.toNat_natCast, w32_eq (show -2147483648 ≤ v - dg (I 22 0 i) t by omega) (show v - dg (I 22 0 i) t ≤ 2147483647 by omega), w32_eq (show -2147483648 ≤ (v - dg (I 22 0 i) t) * wth t by omega) (show (v - dg (I 22 0 i) t) * wth t ≤ 2147483647 by omega), w32_eq (show -2147483648 ≤ I 22 0 i + (v - dg (I 22 0 i) t) * wth t by omega) (show I 22 0 i + (v - dg (I 22 0 i) t) * wth t ≤ 2147483647 by omega)]
def nt (I : TI) (D : Nat) : TI := upI (brI I 46 0 0 48 0 (25 * D) 25) 39 0 9 ((D + 1 : Nat) : Int)
theorem s_D_notes {D : Nat} (hD : I 39 0 9 = D) (hD40 : D < 40) : X (d + 1) m_D_notes 0 [some (vr 39 0)] [] (MM sc I J) Q ↔ Q none (MM sc (nt I D) J) := by
  have e : w32 (25 * (D : Int)) = ((25 * D : Nat) : Int) := by rw [w32_eq (by omega) (by omega)]; omega
  have b := s_D_bring (d := d) (sc := sc) (I := I) (J := J) (t0 := 46) (i0 := 0) (n0 := 25) (t2 := 48) (i2 := 0) (n2 := 1000) (a := 0) (b := 25 * D) (n := 25) (Q := fun r mm => X (d + 1) m_D_notes 21 [some (vr 39 0)] (r.toList ++ []) mm Q) (fun _ _ => rfl) (fun _ _ => rfl) (by decide) (by decide) (by omega) (by decide) (by decide)
  rw [b_D_notes_0, hD, e]
  refine b.trans ?_
  rw [ap_n, b_D_notes_21, b_D_notes_31, show brI I 46 0 0 48 0 (25 * D) 25 39 0 9 = I 39 0 9 from rfl, hD, wsuc (by omega)]
  exact Iff.rfl
/-- the invariant behind one deed of both -/
theorem inv_deed (h : Inv I J) {i D : Nat} (hi : (i : Int) < I 39 0 4) (hD : I 39 0 9 = D) (hD40 : D < 40) {s' : Nat → Int} {lf' bk' : Nat → Int} {cr' : Int} {I' : TI} (ok : okS (I 39 0 4) s') (e4 : s' 0 ≤ I 46 0 0 + 1)
    (e5 : ∀ j : Nat, (j : Int) < I 39 0 4 → j ≠ i → lf3 s' j = lf3 (I 46 0) j ∧ s' (19 + j) = I 46 0 (19 + j))
    (v22 : ∀ p, I' 22 0 p = if p = i then lf3 s' i else I 22 0 p) (v23 : ∀ p, I' 23 0 p = if p = i then s' (19 + i) else I 23 0 p) (v20 : I' 20 0 8 = s' 0)
    (v9 : I' 20 0 9 = ((D + 1 : Nat) : Int)) (v39 : I' 39 0 9 = ((D + 1 : Nat) : Int)) (v24 : ∀ p, I' 24 0 p = if p = D then (i : Int) else I 24 0 p) (v25 : ∀ p, I' 25 0 p = if p = D then I 22 0 i else I 25 0 p) (v26 : ∀ p, I' 26 0 p = if p = D then I 23 0 i else I 26 0 p) (v27 : ∀ p, I' 27 0 p = if p = D then I 20 0 8 else I 27 0 p)
    (v46 : ∀ p, p < 25 → I' 46 0 p = s' p) (v48 : ∀ p, I' 48 0 p = if 25 * D ≤ p ∧ p < 25 * D + 25 then I 46 0 (p - 25 * D) else I 48 0 p)
    (fr : ∀ t i p : Nat, (t = 20 → i = 0 → p ≠ 8 ∧ p ≠ 9) → (22 ≤ t → t ≤ 27 → i ≠ 0) → t ≠ 46 → t ≠ 48 → (t = 39 → p ≠ 9) → I' t i p = I t i p) : Inv I' J := by
  have hF := h.2.2.2.1.2
  obtain ⟨n1, n2, n3, n4, n5, n6, n7, n8, n9⟩ := inv_num h
  refine inv_F h fr (by rw [v9, v39]) (iF_deed (D := D) (i := i) n3 hF hi hD hD40 (by rw [v39]; omega) (fun j hj hji => ?_) ⟨?_, ?_⟩ (okS_eq n3 v46 ok) ?_ ?_ (fun j hj hji => ?_) (fun k hk => ⟨?_, ?_, ?_, ?_, fun p hp => ?_⟩) ⟨?_, ?_, ?_, ?_, fun p hp => ?_⟩)
  · rw [v22, v23, if_neg hji, if_neg hji]
    exact ⟨rfl, rfl⟩
  · rw [v22, if_pos rfl, lf3_eq (by omega) v46]
  · rw [v23, if_pos rfl, v46 _ (by omega)]
  · rw [v20, v46 _ (by omega)]
  · rw [v46 _ (by omega)]
    exact e4
  · rw [lf3_eq (by omega) v46, v46 _ (by omega)]
    exact e5 j hj hji
  · rw [v24, if_neg (by omega)]
  · rw [v25, if_neg (by omega)]
  · rw [v26, if_neg (by omega)]
  · rw [v27, if_neg (by omega)]
  · simp only [bo0]
    rw [v48, if_neg (by omega)]
  · rw [v24, if_pos rfl]
  · rw [v25, if_pos rfl]
  · rw [v26, if_pos rfl]
  · rw [v27, if_pos rfl]
  · simp only [bo0]
    rw [v48, if_pos (by omega)]
    congr 1
    omega
end DE
