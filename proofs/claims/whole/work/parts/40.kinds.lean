/-! KINDS AND LIVES: what the class's static functions answer -/
theorem w32_eq {x : Int} (h1 : -2147483648 ≤ x) (h2 : x ≤ 2147483647) : w32 x = x := w32_id ⟨h1, h2⟩
theorem w64_eq {x : Int} (h1 : -9223372036854775808 ≤ x) (h2 : x ≤ 9223372036854775807) : w64 x = x := w64_id ⟨h1, h2⟩
theorem td_eq {x y : Int} (h : 0 ≤ x) : x.tdiv y = x / y := Int.tdiv_eq_ediv_of_nonneg h
theorem tm_eq {x y : Int} (h : 0 ≤ x) : x.tmod y = x % y := Int.tmod_eq_emod_of_nonneg h
theorem ap_s (v : AV) (r : List AV) : (some v).toList ++ r = v :: r := rfl
theorem ap_n (r : List AV) : (none : Option AV).toList ++ r = r := rfl
def b2 (c : Prop) [Decidable c] : Int := if c then 1 else 0
theorem b2_01 (c : Prop) [Decidable c] : b2 c = 0 ∨ b2 c = 1 := by unfold b2; split <;> simp
theorem b2_t {c : Prop} [Decidable c] (h : c) : b2 c = 1 := if_pos h
theorem b2_f {c : Prop} [Decidable c] (h : ¬ c) : b2 c = 0 := if_neg h
def wth (t : Int) : Int := if t = 0 then 100 else if t = 1 then 10 else 1
def dg (L t : Int) : Int := if t = 0 then L / 100 else if t = 1 then L / 10 % 10 else L % 10
def tg (L : Int) : Int := L / 100 + L / 10 % 10 + L % 10
def isk (k o : Int) : Prop := k = o ∨ o = 0 ∨ (k = 4 ∧ o = 1) ∨ (k = 5 ∧ o = 2)
def stpk (k n : Int) : Int := if k = 1 ∨ (k = 4 ∧ n % 2 = 0) then 2 else 1
def wch (k c : Int) : Int := if c = 0 then 0 else if k = 3 then ((c - 1) / 2 + 1) % 3 else (c - 1) / 2
def chg (k c n : Int) : Int := if c = 0 then 0 else if (c % 2 = 1 ∧ ¬ (k = 2 ∨ k = 5)) ∨ (c % 2 = 0 ∧ (k = 2 ∨ k = 5)) then stpk k n else -stpk k n
def ld (k L c n : Int) : Int := if c = 0 then (if k = 5 then L else -1) else if dg L (wch k c) + chg k c n < 0 ∨ 9 < dg L (wch k c) + chg k c n then -1 else L + chg k c n * wth (wch k c)
def lt (k L c n : Int) : Int := if ld k L c n = -1 then L else ld k L c n
section KL
variable {d : Nat} {Q : Option AV → AMem → Prop} {sc : SC} {I J : TI}
theorem s_L_worthOf {t : Int} : X d m_L_worthOf 0 [some (vi t)] [] (MM sc I J) Q ↔ Q (some (vi (wth t))) (MM sc I J) := by
  simp only [b_L_worthOf_0, b_L_worthOf_4, b_L_worthOf_9, b_L_worthOf_14, b_L_worthOf_19, b_L_worthOf_20, wth]
  by_cases h0 : t = 0 <;> by_cases h1 : t = 1 <;> simp [h0, h1]
theorem s_L_thing {L t : Int} (h : 0 ≤ L) (h2 : L ≤ 999) : X (d + 1) m_L_thing 0 [some (vi L), some (vi t)] [] (MM sc I J) Q ↔ Q (some (vi (dg L t))) (MM sc I J) := by
  simp only [b_L_thing_0, b_L_thing_5, b_L_thing_6, s_L_worthOf, ap_s]
  have hw : wth t = 100 ∨ wth t = 10 ∨ wth t = 1 := by unfold wth; split; simp; split <;> simp
  have e1 : ¬ wth t = 0 := by omega
  have e2 : (w32 (L.tdiv (wth t))).tmod 10 = dg L t := by
    rw [td_eq h]
    unfold wth dg
    split
    · rw [w32_eq (by omega) (by omega), tm_eq (by omega)]; omega
    · split
      · rw [w32_eq (by omega) (by omega), tm_eq (by omega)]
      · rw [w32_eq (by omega) (by omega), tm_eq (by omega)]; omega
  simp only [e1, not_false_eq_true, true_and, e2]
theorem s_L_together {L : Int} (h : 0 ≤ L) (h2 : L ≤ 999) : X d m_L_together 0 [some (vi L)] [] (MM sc I J) Q ↔ Q (some (vi (tg L))) (MM sc I J) := by
  simp only [b_L_together_0]
  rw [td_eq h, td_eq h, tm_eq h, w32_eq (x := L / 10) (by omega) (by omega), tm_eq (x := L / 10) (by omega), w32_eq (x := L / 100) (by omega) (by omega), w32_eq (x := L / 100 + L / 10 % 10) (by omega) (by omega), w32_eq (by omega) (by omega)]
  rfl
theorem s_K_isOf {k o : Int} : X d m_K_isOf 0 [some (vi k), some (vi o)] [] (MM sc I J) Q ↔ Q (some (vi (if k = o ∨ o = 0 ∨ (k = 4 ∧ o = 1) ∨ (k = 5 ∧ o = 2) then 1 else 0))) (MM sc I J) := by
  simp only [b_K_isOf_0, b_K_isOf_5, b_K_isOf_9, b_K_isOf_14, b_K_isOf_19, b_K_isOf_24, b_K_isOf_29, b_K_isOf_33, b_K_isOf_34]
  (repeat' split) <;> first | (simp; done) | (exfalso; omega)
theorem s_K_stepOf {k n : Int} (hn : 0 ≤ n) : X d m_K_stepOf 0 [some (vi k), some (vi n)] [] (MM sc I J) Q ↔ Q (some (vi (stpk k n))) (MM sc I J) := by
  simp only [b_K_stepOf_0, b_K_stepOf_5, b_K_stepOf_10, b_K_stepOf_16, b_K_stepOf_20, b_K_stepOf_21, tm_eq hn, stpk]
  by_cases h0 : k = 1 <;> by_cases h1 : k = 4 <;> by_cases h2 : n % 2 = 0 <;> simp [h0, h1, h2]
theorem s_K_thingOf {k c : Int} (h : 0 ≤ c) (h2 : c ≤ 6) : X d m_K_thingOf 0 [some (vi k), some (vi c), none] [] (MM sc I J) Q ↔ Q (some (vi (wch k c))) (MM sc I J) := by
  by_cases h0 : c = 0
  · subst h0
    simp [b_K_thingOf_0, b_K_thingOf_4, b_K_thingOf_6, b_K_thingOf_17, b_K_thingOf_25, b_K_thingOf_26, wch]
  · have e1 : w32 ((w32 (c - 1)).tdiv 2) = (c - 1) / 2 := by rw [w32_eq (x := c - 1) (by omega) (by omega), td_eq (by omega), w32_eq (by omega) (by omega)]
    have e2 : (w32 ((c - 1) / 2 + 1)).tmod 3 = ((c - 1) / 2 + 1) % 3 := by rw [w32_eq (by omega) (by omega), tm_eq (by omega)]
    by_cases h3 : k = 3 <;> simp [b_K_thingOf_0, b_K_thingOf_4, b_K_thingOf_6, b_K_thingOf_17, b_K_thingOf_25, b_K_thingOf_26, wch, h0, h3, e1, e2]
theorem s_K_changeOf {k c n : Int} (h : 0 ≤ c) (h2 : c ≤ 6) (hn : 0 ≤ n) : X (d + 1) m_K_changeOf 0 [some (vi k), some (vi c), some (vi n), none, none] [] (MM sc I J) Q ↔ Q (some (vi (chg k c n))) (MM sc I J) := by
  have hs : stpk k n = 1 ∨ stpk k n = 2 := by unfold stpk; split <;> simp
  have e1 : w32 (-stpk k n) = -stpk k n := w32_eq (by omega) (by omega)
  simp only [b_K_changeOf_0, b_K_changeOf_4, b_K_changeOf_6, b_K_changeOf_13, b_K_changeOf_17, b_K_changeOf_18, b_K_changeOf_24, b_K_changeOf_27, b_K_changeOf_31, b_K_changeOf_35, b_K_changeOf_39, b_K_changeOf_40, b_K_changeOf_47, b_K_changeOf_52, b_K_changeOf_55, b_K_changeOf_60, b_K_changeOf_61, s_K_isOf, s_K_stepOf hn, ap_s, tm_eq h, e1, chg]
  by_cases h0 : c = 0
  · simp [h0]
  · rcases (show c % 2 = 0 ∨ c % 2 = 1 by omega) with h1 | h1 <;> by_cases h3 : k = 2 <;> by_cases h4 : k = 5 <;> simp [h0, h1, h3, h4]
theorem wch_in {k c : Int} (h : 0 ≤ c) (h2 : c ≤ 6) : wch k c = 0 ∨ wch k c = 1 ∨ wch k c = 2 := by
  unfold wch
  split
  · simp
  · split <;> omega
theorem chg_in (k c n : Int) : -2 ≤ chg k c n ∧ chg k c n ≤ 2 := by
  have hs : stpk k n = 1 ∨ stpk k n = 2 := by unfold stpk; split <;> simp
  unfold chg
  split
  · omega
  · split <;> omega
theorem dg_in {L t : Int} (h : 0 ≤ L) (h2 : L ≤ 999) : 0 ≤ dg L t ∧ dg L t ≤ 9 := by
  unfold dg
  split
  · omega
  · split <;> omega
theorem wth_in (t : Int) : wth t = 100 ∨ wth t = 10 ∨ wth t = 1 := by unfold wth; split; simp; split <;> simp
theorem ld_in {k L c n : Int} (h : 0 ≤ c) (h2 : c ≤ 6) (hL : 0 ≤ L) (hL2 : L ≤ 999) : ld k L c n = -1 ∨ (0 ≤ ld k L c n ∧ ld k L c n ≤ 999) := by
  unfold ld
  split
  · split <;> omega
  · split
    · simp
    · next h3 =>
      right
      have hc := chg_in k c n
      generalize chg k c n = y at *
      rcases wch_in (k := k) h h2 with e | e | e <;> rw [e] at h3 ⊢ <;> simp [dg, wth] at h3 ⊢ <;> omega
theorem lt_in {k L c n : Int} (h : 0 ≤ c) (h2 : c ≤ 6) (hL : 0 ≤ L) (hL2 : L ≤ 999) : 0 ≤ lt k L c n ∧ lt k L c n ≤ 999 := by
  have := ld_in (k := k) (n := n) h h2 hL hL2
  unfold lt
  split <;> omega
theorem s_K_landing {k L c n : Int} (h : 0 ≤ c) (h2 : c ≤ 6) (hL : 0 ≤ L) (hL2 : L ≤ 999) (hn : 0 ≤ n) : X (d + 2) m_K_landing 0 [some (vi k), some (vi L), some (vi c), some (vi n), none, none, none] [] (MM sc I J) Q ↔ Q (some (vi (ld k L c n))) (MM sc I J) := by
  have hc := chg_in k c n
  have hd := dg_in (t := wch k c) hL hL2
  have hw := wth_in (wch k c)
  have e1 : w32 (dg L (wch k c) + chg k c n) = dg L (wch k c) + chg k c n := w32_eq (by omega) (by omega)
  have hm : -200 ≤ chg k c n * wth (wch k c) ∧ chg k c n * wth (wch k c) ≤ 200 := by rcases hw with q | q | q <;> rw [q] <;> omega
  have e2 : w32 (chg k c n * wth (wch k c)) = chg k c n * wth (wch k c) := w32_eq (by omega) (by omega)
  have e3 : w32 (L + chg k c n * wth (wch k c)) = L + chg k c n * wth (wch k c) := w32_eq (by omega) (by omega)
  simp only [b_K_landing_0, b_K_landing_4, b_K_landing_9, b_K_landing_13, b_K_landing_14, b_K_landing_15, b_K_landing_20, b_K_landing_28, b_K_landing_36, b_K_landing_46, b_K_landing_53, b_K_landing_55, b_K_landing_63, s_K_thingOf h h2, s_K_changeOf h h2 hn, s_L_thing hL hL2, s_L_worthOf, ap_s, e1, e2, e3, ld]
  by_cases h0 : c = 0
  · by_cases h5 : k = 5 <;> simp [h0, h5]
  · simp only [h0, if_false]
    by_cases q1 : dg L (wch k c) + chg k c n < 0
    · simp [q1]
    · by_cases q2 : dg L (wch k c) + chg k c n ≤ 9
      · have q3 : ¬ (9 < dg L (wch k c) + chg k c n) := by omega
        simp [q1, q2, q3]
      · have q3 : 9 < dg L (wch k c) + chg k c n := by omega
        simp [q1, q2, q3]
theorem s_K_lifeThen {k L c n : Int} (h : 0 ≤ c) (h2 : c ≤ 6) (hL : 0 ≤ L) (hL2 : L ≤ 999) (hn : 0 ≤ n) : X (d + 3) m_K_lifeThen 0 [some (vi k), some (vi L), some (vi c), some (vi n), none] [] (MM sc I J) Q ↔ Q (some (vi (lt k L c n))) (MM sc I J) := by
  simp only [b_K_lifeThen_0, b_K_lifeThen_7, b_K_lifeThen_15, b_K_lifeThen_19, b_K_lifeThen_21, s_K_landing h h2 hL hL2 hn, ap_s, lt]
  by_cases h0 : ld k L c n = -1 <;> simp [h0]
theorem s_K_weightOf {k L : Int} (hL : 0 ≤ L) (hL2 : L ≤ 999) : X (d + 1) m_K_weightOf 0 [some (vi k), some (vi L)] [] (MM sc I J) Q ↔ Q (some (vi (tg L + (if k = 1 ∨ k = 4 then 1 else 0)))) (MM sc I J) := by
  have ht : 0 ≤ tg L ∧ tg L ≤ 27 := by unfold tg; omega
  have e1 : w32 (tg L + 1) = tg L + 1 := w32_eq (by omega) (by omega)
  have e0 : w32 (tg L + 0) = tg L + 0 := w32_eq (by omega) (by omega)
  simp only [b_K_weightOf_0, b_K_weightOf_4, b_K_weightOf_9, b_K_weightOf_12, b_K_weightOf_16, b_K_weightOf_17, s_L_together hL hL2, s_K_isOf, ap_s, e1, e0]
  by_cases h1 : k = 1 <;> by_cases h4 : k = 4 <;> simp [h1, h4]
theorem s_K_ofLetter {x : Int} : X d m_K_ofLetter 0 [some (vi x)] [] (MM sc I J) Q ↔ Q (some (vi (if x = 112 then 0 else if x = 98 then 1 else if x = 108 then 2 else if x = 119 then 3 else if x = 115 then 4 else if x = 99 then 5 else -9))) (MM sc I J) := by
  simp only [b_K_ofLetter_0, b_K_ofLetter_60, b_K_ofLetter_62, b_K_ofLetter_64, b_K_ofLetter_66, b_K_ofLetter_68, b_K_ofLetter_70, b_K_ofLetter_72]
  (repeat' split) <;> first | rfl | (subst_vars; simp; done) | (exfalso; omega)
theorem s_D_kindBy {x : Int} : X d m_D_kindBy 0 [some (vi x)] [] (MM sc I J) Q ↔ Q (some (vi (if x = 112 then 0 else if x = 98 then 1 else if x = 108 then 2 else if x = 119 then 3 else if x = 115 then 4 else if x = 99 then 5 else -1))) (MM sc I J) := by
  simp only [b_D_kindBy_0, b_D_kindBy_60, b_D_kindBy_62, b_D_kindBy_64, b_D_kindBy_66, b_D_kindBy_68, b_D_kindBy_70, b_D_kindBy_72]
  (repeat' split) <;> first | rfl | (subst_vars; simp; done) | (exfalso; omega)
end KL
