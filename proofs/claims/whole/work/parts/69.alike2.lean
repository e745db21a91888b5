/-! ALIKE, the reference's side -/
theorem wd7 {q : Nat} (h : q ≤ 100000) : w32 ((q : Int).tdiv 7) = ((q / 7 : Nat) : Int) := by rw [td_eq (by omega), w32_eq (by omega) (by omega)]; omega
theorem wm7 (q : Nat) : (q : Int).tmod 7 = ((q % 7 : Nat) : Int) := by rw [tm_eq (by omega)]; omega
theorem wpred {q : Nat} (h : q ≤ 100000) : w32 ((q : Int) + (-1)) = (q : Int) - 1 := by rw [w32_eq (by omega) (by omega)]; omega
theorem wl7 {q : Nat} (h : q ≤ 1000) : w32 (w32 (10 * ((q / 7 : Nat) : Int)) + ((q % 7 : Nat) : Int)) = en (q : Int) := by rw [w32_eq (x := 10 * ((q / 7 : Nat) : Int)) (by omega) (by omega), w32_eq (by omega) (by omega), en_n q]
section AM
variable {d : Nat} {Q : Option AV → AMem → Prop} {sc : SC} {I J : TI}
theorem crS_oth {k c : Int} {s : Nat → Int} {i j : Nat} (hi : i < 6) (hj : j < 6) (hij : j ≠ i) (h : 0 ≤ c) (h2 : c ≤ 6) (hd : dg3 s j) : lf3 (crS k s i c) j = lf3 s j ∧ dg3 (crS k s i c) j ∧ crS k s i c (19 + j) = s (19 + j) := by
  have a := crS_ne (k := k) (s := s) (i := i) (p := 1 + 3 * j) h h2 (by omega) (by omega) (by omega) (by omega) (by omega)
  have b := crS_ne (k := k) (s := s) (i := i) (p := 2 + 3 * j) h h2 (by omega) (by omega) (by omega) (by omega) (by omega)
  have e := crS_ne (k := k) (s := s) (i := i) (p := 3 + 3 * j) h h2 (by omega) (by omega) (by omega) (by omega) (by omega)
  have f := crS_ne (k := k) (s := s) (i := i) (p := 19 + j) h h2 (by omega) (by omega) (by omega) (by omega) (by omega)
  unfold lf3 dg3
  rw [a, b, e, f]
  exact ⟨rfl, hd, rfl⟩
theorem l_D_al {i j : Nat} (hi : i < 6) (hj : j < 6) (hij : i ≠ j) (ki : 0 ≤ I 45 0 i ∧ I 45 0 i ≤ 5) (kj : 0 ≤ I 45 0 j ∧ I 45 0 j ≤ 5) (di : dg3 (I 46 0) i) (dj : dg3 (I 46 0) j) (bi : I 46 0 (19 + i) = 0 ∨ I 46 0 (19 + i) = 1) (bj : I 46 0 (19 + j) = 0 ∨ I 46 0 (19 + j) = 1) (hn : 0 ≤ I 46 0 0 ∧ I 46 0 0 ≤ 900)
    (hQ0 : cf (akW (I 45 0 i) (I 45 0 j) (lf3 (I 46 0) i) (lf3 (I 46 0) j) (I 46 0 0)) 1 49 = 0 → ∀ s, Q (some (vi (-9))) (MM sc (up2 I 47 0 s) J)) (hQ1 : ¬ cf (akW (I 45 0 i) (I 45 0 j) (lf3 (I 46 0) i) (lf3 (I 46 0) j) (I 46 0 0)) 1 49 = 0 → ∀ s, Q (some (vi (cf (akW (I 45 0 i) (I 45 0 j) (lf3 (I 46 0) i) (lf3 (I 46 0) j) (I 46 0 0)) 1 49))) (MM sc (upI (up2 I 47 0 s) 39 0 12 (en (fi (akW (I 45 0 i) (I 45 0 j) (lf3 (I 46 0) i) (lf3 (I 46 0) j) (I 46 0 0)) 1 49))) J)) : ∀ (q m : Nat) (s : Nat → Int), q + m = 49 → X (d + 4) m_D_alike 33 [some (vr 39 0), some (vi (i : Int)), some (vi (j : Int)), some (vi (cf (akW (I 45 0 i) (I 45 0 j) (lf3 (I 46 0) i) (lf3 (I 46 0) j) (I 46 0 0)) 1 49 - cf (akW (I 45 0 i) (I 45 0 j) (lf3 (I 46 0) i) (lf3 (I 46 0) j) (I 46 0 0)) 1 q)), some (vi (en (dF (akW (I 45 0 i) (I 45 0 j) (lf3 (I 46 0) i) (lf3 (I 46 0) j) (I 46 0 0)) 1 49 m))), some (vi ((q : Int) - 1))] [] (MM sc (up2 I 47 0 s) J) Q
  | 0, m, s, e => by
    have e1 : m = 49 := by omega
    subst e1
    rw [b_D_alike_33, if_pos (by omega), fi_end, show cf (akW (I 45 0 i) (I 45 0 j) (lf3 (I 46 0) i) (lf3 (I 46 0) j) (I 46 0 0)) 1 0 = 0 from rfl, Int.sub_zero, b_D_alike_116, b_D_alike_120, b_D_alike_125, s_D_tells, ap_s, b_D_alike_132, b_D_alike_132]
    by_cases z : cf (akW (I 45 0 i) (I 45 0 j) (lf3 (I 46 0) i) (lf3 (I 46 0) j) (I 46 0 0)) 1 49 = 0
    · rw [if_pos z]; exact hQ0 z s
    · rw [if_neg z]; exact hQ1 z s
  | q + 1, m, s, e => by
    have hc := cf_in (W := akW (I 45 0 i) (I 45 0 j) (lf3 (I 46 0) i) (lf3 (I 46 0) j) (I 46 0 0)) (v := 1) 49
    have hc2 := cf_in (W := akW (I 45 0 i) (I 45 0 j) (lf3 (I 46 0) i) (lf3 (I 46 0) j) (I 46 0 0)) (v := 1) (q + 1)
    have nwi := nw_ok (I := I) (s := s) hi di
    have nwj := nw_ok (I := I) (s := s) hj dj
    have q7 : 0 ≤ ((q / 7 : Nat) : Int) ∧ ((q / 7 : Nat) : Int) ≤ 6 := by omega
    have q8 : 0 ≤ ((q % 7 : Nat) : Int) ∧ ((q % 7 : Nat) : Int) ≤ 6 := by omega
    have c1 := crS_lf (k := I 45 0 i) (c := ((q / 7 : Nat) : Int)) hi nwi.2.1 q7.1 q7.2
    have o1 := crS_oth (k := I 45 0 i) (c := ((q / 7 : Nat) : Int)) hi hj (Ne.symm hij) q7.1 q7.2 nwj.2.1
    have c2 := crS_lf (k := I 45 0 j) (c := ((q % 7 : Nat) : Int)) hj o1.2.1 q8.1 q8.2
    have o2 := crS_oth (k := I 45 0 j) (c := ((q % 7 : Nat) : Int)) hj hi hij q8.1 q8.2 c1.2
    have e3 : 49 - (m + 1) = q := by omega
    have em : q + (m + 1) = 49 := by omega
    have n1 : crS (I 45 0 i) (nwS I s) i ((q / 7 : Nat) : Int) 0 = I 46 0 0 + 1 := by rw [crS_0, nwi.2.2.1]
    have n1a : 0 ≤ crS (I 45 0 i) (nwS I s) i ((q / 7 : Nat) : Int) 0 ∧ crS (I 45 0 i) (nwS I s) i ((q / 7 : Nat) : Int) 0 ≤ 1000 := by omega
    have n0a : 0 ≤ nwS I s 0 ∧ nwS I s 0 ≤ 1000 := by omega
    have bb : crS (I 45 0 i) (nwS I s) i ((q / 7 : Nat) : Int) (19 + j) = 0 ∨ crS (I 45 0 i) (nwS I s) i ((q / 7 : Nat) : Int) (19 + j) = 1 := by rw [o1.2.2, nwj.2.2.2]; exact bj
    have lti : lf3 (crS (I 45 0 j) (crS (I 45 0 i) (nwS I s) i ((q / 7 : Nat) : Int)) j ((q % 7 : Nat) : Int)) i = lt (I 45 0 i) (lf3 (I 46 0) i) ((q / 7 : Nat) : Int) (I 46 0 0) := by rw [o2.1, c1.1, nwi.1, nwi.2.2.1]
    have ltj : lf3 (crS (I 45 0 j) (crS (I 45 0 i) (nwS I s) i ((q / 7 : Nat) : Int)) j ((q % 7 : Nat) : Int)) j = lt (I 45 0 j) (lf3 (I 46 0) j) ((q % 7 : Nat) : Int) (I 46 0 0 + 1) := by rw [c2.1, o1.1, nwj.1, n1]
    have e1 : ((q + 1 : Nat) : Int) - 1 = (q : Int) := by omega
    have lt0 : ¬ (q : Int) < 0 := by omega
    have qb : q ≤ 1000 := by omega
    have qc : q ≤ 100000 := by omega
    have wl := wl7 qb
    have wd := wd7 qc
    have wm := wm7 q
    have e2 := wpred qc
    rw [e1, b_D_alike_33, if_neg lt0, b_D_alike_38, s_D_asItIs, ap_n, b_D_alike_42, wd, s_D_crN hi ki.1 ki.2 q7.1 q7.2 nwi.2.1 n0a.1 n0a.2 (by rw [nwi.2.2.2]; exact bi), ap_s, b_D_alike_56, wm, s_D_crN hj kj.1 kj.2 q8.1 q8.2 o1.2.1 n1a.1 n1a.2 bb, ap_s, b_D_alike_71, s_D_lifeOf (t := 47) (fun _ _ => rfl) hi (by rw [up2_same]; exact o2.2.1), up2_same, lti, ap_s, b_D_alike_80, s_D_lifeOf (t := 47) (fun _ _ => rfl) hj (by rw [up2_same]; exact c2.2), up2_same, ltj, ap_s, b_D_alike_88, b_D_alike_91, b_D_alike_110, b_D_alike_110, wd, wm, wl, e2]
    have ih := l_D_al hi hj hij ki kj di dj bi bj hn hQ0 hQ1 q (m + 1) (crS (I 45 0 j) (crS (I 45 0 i) (nwS I s) i ((q / 7 : Nat) : Int)) j ((q % 7 : Nat) : Int)) em
    rw [dF, e3] at ih
    rw [show cf (akW (I 45 0 i) (I 45 0 j) (lf3 (I 46 0) i) (lf3 (I 46 0) j) (I 46 0 0)) 1 (q + 1) = cf (akW (I 45 0 i) (I 45 0 j) (lf3 (I 46 0) i) (lf3 (I 46 0) j) (I 46 0 0)) 1 q + (if akW (I 45 0 i) (I 45 0 j) (lf3 (I 46 0) i) (lf3 (I 46 0) j) (I 46 0 0) q = 1 then 1 else 0) from rfl] at hc2 ⊢
    by_cases z : lt (I 45 0 i) (lf3 (I 46 0) i) ((q / 7 : Nat) : Int) (I 46 0 0) = lt (I 45 0 j) (lf3 (I 46 0) j) ((q % 7 : Nat) : Int) (I 46 0 0 + 1)
    · have zw : akW (I 45 0 i) (I 45 0 j) (lf3 (I 46 0) i) (lf3 (I 46 0) j) (I 46 0 0) q = 1 := if_pos z
      rw [if_pos zw] at ih hc2 ⊢
      rw [if_pos z]
      generalize cf (akW (I 45 0 i) (I 45 0 j) (lf3 (I 46 0) i) (lf3 (I 46 0) j) (I 46 0 0)) 1 49 = A at *
      generalize cf (akW (I 45 0 i) (I 45 0 j) (lf3 (I 46 0) i) (lf3 (I 46 0) j) (I 46 0 0)) 1 q = B at *
      clear wl wd e2 wm
      rw [w32_eq (by omega) (by omega), show A - (B + 1) + 1 = A - B by omega]
      exact ih
    · have zw : ¬ akW (I 45 0 i) (I 45 0 j) (lf3 (I 46 0) i) (lf3 (I 46 0) j) (I 46 0 0) q = 1 := by unfold akW; rw [if_neg z]; decide
      rw [if_neg zw] at ih ⊢
      rw [if_neg z, Int.add_zero]
      exact ih
end AM
