/-! NEXT, the calls -/
def nL (g : Nat → Int) : Nat → Int
  | 0 => 7
  | c + 1 => if nL g c ≤ g c then nL g c else g c
def nB (g : Nat → Int) : Nat → Int
  | 0 => 0
  | c + 1 => if nL g c ≤ g c then nB g c else c
section NY
variable {d : Nat} {Q : Option AV → AMem → Prop} {sc : SC} {I J : TI}
theorem kk3 {i k : Nat} {x v : Int} {s g : Nat → Int} : upI (up2 (upI (up2 I 61 0 g) 45 0 i x) 47 0 s) 61 0 k v = up2 (upI (up2 I 61 0 (upF g k v)) 45 0 i x) 47 0 s := by
  funext t j p
  simp only [rd_up, rd_up2, upF]
  by_cases c : t = 61 ∧ j = 0
  · obtain ⟨a, b⟩ := c
    subst a b
    by_cases e : p = k
    · simp [e]
    · simp [e]
  · rw [if_neg (by omega)]
    by_cases c2 : t = 47 ∧ j = 0
    · rw [if_pos c2, if_pos c2]
    · rw [if_neg c2, if_neg c2]
      by_cases c3 : t = 45 ∧ j = 0 ∧ p = i
      · rw [if_pos c3, if_pos c3]
      · rw [if_neg c3, if_neg c3, if_neg c, if_neg c]
theorem l_D_gr1 {i c : Nat} {set : Int} (hi : i < 6) (hc : c < 7) (hd : dg3 (I 46 0) i) (hb : I 46 0 (19 + i) = 0 ∨ I 46 0 (19 + i) = 1) (hn : 0 ≤ I 46 0 0 ∧ I 46 0 0 ≤ 900) (hQ : ∀ s g, (∀ k, k < 6 → g k = tk (lf3 (I 46 0) i) c (I 46 0 0) k) → X (d + 3) m_D_greatest 70 [some (vr 39 0), some (vi (i : Int)), some (vi set), some (vi (c : Int)), some (vi (I 45 0 i)), some (vi 6), none, none, none] [] (MM sc (up2 (up2 I 61 0 g) 47 0 s) J) Q) : ∀ (m k : Nat) (x : Int) (s g : Nat → Int), k + m = 6 → (∀ j, j < k → g j = tk (lf3 (I 46 0) i) c (I 46 0 0) j) → X (d + 3) m_D_greatest 11 [some (vr 39 0), some (vi (i : Int)), some (vi set), some (vi (c : Int)), some (vi (I 45 0 i)), some (vi (k : Int)), none, none, none] [] (MM sc (up2 (upI (up2 I 61 0 g) 45 0 i x) 47 0 s) J) Q
  | 0, k, x, s, g, e, hg => by
    have e1 : k = 6 := by omega
    subst e1
    rw [b_D_greatest_11, if_pos (by omega), b_D_greatest_62, and_iff_right (by omega), Int.toNat_natCast]
    have := kk2 (I := up2 I 61 0 g) (i := i) (x := x) (s := s)
    rw [show up2 I 61 0 g 45 0 i = I 45 0 i from rfl] at this
    rw [this]
    exact hQ s g hg
  | m + 1, k, x, s, g, e, hg => by
    have nw := nw_ok (I := upI (up2 I 61 0 g) 45 0 i k) (s := s) hi hd
    have kk : upI (up2 I 61 0 g) 45 0 i k 45 0 i = (k : Int) := by rw [rd_up, if_pos ⟨rfl, rfl, rfl⟩]
    have cr := crS_lf (k := (k : Int)) (c := (c : Int)) hi nw.2.1 (by omega) (by omega)
    have crn := s_D_crN (d := d) (sc := sc) (I := upI (up2 I 61 0 g) 45 0 i k) (J := J) (s := nwS (upI (up2 I 61 0 g) 45 0 i k) s) (i := i) (c := (c : Int)) (Q := fun r' mm => X (d + 2 + 1) m_D_greatest 40 [some (vr 39 0), some (vi (i : Int)), some (vi set), some (vi (c : Int)), some (vi (I 45 0 i)), some (vi (k : Int)), none, none, none] (r'.toList ++ []) mm Q) hi (by rw [kk]; omega) (by rw [kk]; omega) (by omega) (by omega) nw.2.1 (by rw [nw.2.2.1]; exact hn.1) (by rw [nw.2.2.1]; show I 46 0 0 ≤ 1000; omega) (by rw [nw.2.2.2]; exact hb)
    rw [kk] at crn
    rw [b_D_greatest_11, if_neg (by omega), b_D_greatest_18, and_iff_right (by omega), Int.toNat_natCast, kk1, b_D_greatest_26, s_D_asItIs, ap_n, b_D_greatest_30]
    refine crn.mpr ?_
    rw [ap_s, b_D_greatest_40, s_D_togetherOf (t := 47) (fun _ _ => rfl) hi (by rw [up2_same]; exact cr.2), up2_same, cr.1, nw.1, nw.2.2.1, ap_s, b_D_greatest_55, and_iff_right (by omega), Int.toNat_natCast, kk3, b_D_greatest_56, wsuc (by omega)]
    refine l_D_gr1 hi hc hd hb hn hQ m (k + 1) k _ _ (by omega) (fun j hj => ?_)
    unfold upF
    by_cases y : j = k
    · rw [if_pos y, y]
      rfl
    · rw [if_neg y]
      exact hg j (by omega)
theorem l_D_gr2 {i k c : Nat} {set x5 x4 : Int} {t : Nat → Int} (hk : k < 6) (hset : 0 ≤ set ∧ set < 64) (ht : ∀ j, j < 6 → I 61 0 j = t j) : ∀ (m o : Nat), o + m = 6 → (X d m_D_greatest 89 [some (vr 39 0), some (vi (i : Int)), some (vi set), some (vi (c : Int)), some (vi x4), some (vi x5), some (vi (k : Int)), some (vi (al (bs set) t k o)), some (vi (o : Int))] [] (MM sc I J) Q ↔ X d m_D_greatest 149 [some (vr 39 0), some (vi (i : Int)), some (vi set), some (vi (c : Int)), some (vi x4), some (vi x5), some (vi (k : Int)), some (vi (al (bs set) t k 6)), some (vi 6)] [] (MM sc I J) Q)
  | 0, o, e => by
    have e1 : o = 6 := by omega
    subst e1
    rw [b_D_greatest_89, if_pos (by omega)]
    exact Iff.rfl
  | m + 1, o, e => by
    have bk : i_and (i_shr set (k : Int)) 1 = bs set k := by unfold bs bt; rw [if_pos hk]
    have bo : i_and (i_shr set (o : Int)) 1 = bs set o := by unfold bs bt; rw [if_pos (by omega)]
    have hal := al_in (bs set) t k o
    rw [b_D_greatest_89, if_neg (by omega), b_D_greatest_96, bk, b_D_greatest_108, bo, b_D_greatest_118, and_iff_right (by omega), Int.toNat_natCast, b_D_greatest_125, and_iff_right (by omega), Int.toNat_natCast, ht k hk, ht o (by omega), b_D_greatest_132, b_D_greatest_135, b_D_greatest_139, b_D_greatest_140, b_D_greatest_140, wsuc (by omega), w32_eq (x := al (bs set) t k o + 1) (by omega) (by omega), w32_eq (x := al (bs set) t k o + 0) (by omega) (by omega)]
    rw [← l_D_gr2 hk hset ht m (o + 1) (by omega)]
    rw [al]
    by_cases z1 : bs set k = 1
    · rw [if_pos z1]
      by_cases z2 : bs set o = 1
      · rw [if_pos z2]
        by_cases z3 : t k = t o
        · rw [if_pos z3, if_pos ⟨z1, z2, z3⟩]
        · rw [if_neg z3, if_neg (fun y => z3 y.2.2)]
      · rw [if_neg z2, if_neg (fun y => z2 y.2.1)]
    · rw [if_neg z1, if_neg (fun y => z1 y.1)]
theorem l_D_gr3 {i c : Nat} {set x4 : Int} {t : Nat → Int} (hset : 0 ≤ set ∧ set < 64) (ht : ∀ j, j < 6 → I 61 0 j = t j) : ∀ (m k : Nat) (o7 o8 : Option AV), k + m = 6 → (X d m_D_greatest 76 [some (vr 39 0), some (vi (i : Int)), some (vi set), some (vi (c : Int)), some (vi x4), some (vi (moF (bs set) t k)), some (vi (k : Int)), o7, o8] [] (MM sc I J) Q ↔ Q (some (vi (moF (bs set) t 6))) (MM sc I J))
  | 0, k, o7, o8, e => by
    have e1 : k = 6 := by omega
    subst e1
    rw [b_D_greatest_76, if_pos (by omega), b_D_greatest_171]
  | m + 1, k, o7, o8, e => by
    rw [b_D_greatest_76, if_neg (by omega), b_D_greatest_83]
    refine (l_D_gr2 (by omega) hset ht 6 0 (by omega)).trans ?_
    rw [b_D_greatest_149, b_D_greatest_156, b_D_greatest_161, b_D_greatest_163, b_D_greatest_163, wsuc (by omega)]
    rw [← l_D_gr3 hset ht m (k + 1) (some (vi (al (bs set) t k 6))) (some (vi 6)) (by omega)]
    rw [moF]
    split <;> exact Iff.rfl
theorem s_D_greatest {i c : Nat} {set : Int} {s g : Nat → Int} (hi : i < 6) (hc : c < 7) (hset : 0 ≤ set ∧ set < 64) (hd : dg3 (I 46 0) i) (hb : I 46 0 (19 + i) = 0 ∨ I 46 0 (19 + i) = 1) (hn : 0 ≤ I 46 0 0 ∧ I 46 0 0 ≤ 900) (hQ : ∀ s g, Q (some (vi (gF (bs set) (tk (lf3 (I 46 0) i) c (I 46 0 0)) 6))) (MM sc (up2 (up2 I 61 0 g) 47 0 s) J)) : X (d + 3) m_D_greatest 0 [some (vr 39 0), some (vi (i : Int)), some (vi set), some (vi (c : Int)), none, none, none, none, none] [] (MM sc (up2 (up2 I 61 0 g) 47 0 s) J) Q := by
  have := l_D_gr1 (d := d) (Q := Q) (sc := sc) (I := I) (J := J) (set := set) hi hc hd hb hn (fun s' g' hg => by
    rw [b_D_greatest_70]
    refine (l_D_gr3 (I := up2 (up2 I 61 0 g') 47 0 s') (t := tk (lf3 (I 46 0) i) c (I 46 0 0)) hset (fun j hj => hg j hj) 6 0 none none (by omega)).mpr ?_
    rw [gF_mo (bs_01 hset)]
    exact hQ s' g') 6 0 (I 45 0 i) s g (by omega) (fun j hj => by omega)
  have k0 := kk0 (I := up2 I 61 0 g) (i := i)
  rw [show up2 I 61 0 g 45 0 i = I 45 0 i from rfl] at k0
  rw [k0] at this
  rw [b_D_greatest_0, and_iff_right (by omega), Int.toNat_natCast, b_D_greatest_6]
  exact this
theorem l_C_nx {i : Nat} {set x2 x3 : Int} (hi : i < 6) (hset : 0 ≤ set ∧ set < 64) (hL : 0 ≤ I 22 0 i ∧ I 22 0 i ≤ 999) (hn : 0 ≤ I 20 0 8) (hQ : ∀ p, Q (some (vi (nB (fun c => gF (bs set) (tk (I 22 0 i) c (I 20 0 8)) 6) 7))) (MM sc (upI (up2 I 12 0 p) 0 0 6 (nL (fun c => gF (bs set) (tk (I 22 0 i) c (I 20 0 8)) 6) 7)) J)) : ∀ (m c : Nat) (p : Nat → Int) (o : Option AV), c + m = 7 → X (d + 5) m_C_next 65 [some (vr 0 0), some (vi (i : Int)), some (vi x2), some (vi x3), some (vi set), some (vi (nB (fun c => gF (bs set) (tk (I 22 0 i) c (I 20 0 8)) 6) c)), some (vi (nL (fun c => gF (bs set) (tk (I 22 0 i) c (I 20 0 8)) 6) c)), some (vi (c : Int)), o] [] (MM sc (up2 I 12 0 p) J) Q
  | 0, c, p, o, e => by
    have e1 : c = 7 := by omega
    subst e1
    rw [b_C_next_65, if_pos (by omega), b_C_next_112, b_C_next_118]
    exact hQ p
  | m + 1, c, p, o, e => by
    rw [b_C_next_65, if_neg (by omega), b_C_next_72, and_iff_right (by omega), Int.toNat_natCast, show up2 I 12 0 p 22 0 i = I 22 0 i from rfl, b_C_next_84]
    refine s_C_gp (by omega) hset hL hn (fun p' => ?_)
    rw [ap_s, b_C_next_89, b_C_next_98, b_C_next_106, b_C_next_106, wsuc (by omega)]
    have ih := l_C_nx (x2 := x2) (x3 := x3) hi hset hL hn hQ m (c + 1) p' (some (vi (gF (bs set) (tk (I 22 0 i) c (I 20 0 8)) 6))) (by omega)
    rw [nB, nL] at ih
    by_cases z : nL (fun c => gF (bs set) (tk (I 22 0 i) c (I 20 0 8)) 6) c ≤ gF (bs set) (tk (I 22 0 i) c (I 20 0 8)) 6
    · rw [if_pos z] at ih ⊢
      rw [if_pos z] at ih
      exact ih
    · rw [if_neg z] at ih ⊢
      rw [if_neg z] at ih
      exact ih
theorem l_D_nx {i : Nat} {set x2 x3 : Int} (hi : i < 6) (hset : 0 ≤ set ∧ set < 64) (hd : dg3 (I 46 0) i) (hb : I 46 0 (19 + i) = 0 ∨ I 46 0 (19 + i) = 1) (hn : 0 ≤ I 46 0 0 ∧ I 46 0 0 ≤ 900) (hQ : ∀ s g, Q (some (vi (nB (fun c => gF (bs set) (tk (lf3 (I 46 0) i) c (I 46 0 0)) 6) 7))) (MM sc (upI (up2 (up2 I 61 0 g) 47 0 s) 39 0 12 (nL (fun c => gF (bs set) (tk (lf3 (I 46 0) i) c (I 46 0 0)) 6) 7)) J)) : ∀ (m c : Nat) (s g : Nat → Int) (o : Option AV), c + m = 7 → X (d + 4) m_D_next 59 [some (vr 39 0), some (vi (i : Int)), some (vi x2), some (vi x3), some (vi set), some (vi (nB (fun c => gF (bs set) (tk (lf3 (I 46 0) i) c (I 46 0 0)) 6) c)), some (vi (nL (fun c => gF (bs set) (tk (lf3 (I 46 0) i) c (I 46 0 0)) 6) c)), some (vi (c : Int)), o] [] (MM sc (up2 (up2 I 61 0 g) 47 0 s) J) Q
  | 0, c, s, g, o, e => by
    have e1 : c = 7 := by omega
    subst e1
    rw [b_D_next_59, if_pos (by omega), b_D_next_115, s_D_tells, ap_s, b_D_next_123]
    exact hQ s g
  | m + 1, c, s, g, o, e => by
    rw [b_D_next_59, if_neg (by omega), b_D_next_66]
    refine s_D_greatest hi (by omega) hset hd hb hn (fun s' g' => ?_)
    rw [ap_s, b_D_next_75, b_D_next_84, b_D_next_89, b_D_next_91, b_D_next_91, b_D_next_100, b_D_next_105, b_D_next_107, b_D_next_107, b_D_next_100, b_D_next_105, b_D_next_107, b_D_next_107, wsuc (by omega)]
    have ih := l_D_nx (x2 := x2) (x3 := x3) hi hset hd hb hn hQ m (c + 1) s' g' (some (vi (gF (bs set) (tk (lf3 (I 46 0) i) c (I 46 0 0)) 6))) (by omega)
    rw [nB, nL] at ih
    by_cases z : nL (fun c => gF (bs set) (tk (lf3 (I 46 0) i) c (I 46 0 0)) 6) c ≤ gF (bs set) (tk (lf3 (I 46 0) i) c (I 46 0 0)) 6
    · rw [if_pos z, if_pos z]
      rw [if_pos z, if_pos z] at ih
      exact ih
    · rw [if_neg z, if_neg z]
      rw [if_neg z, if_neg z] at ih
      exact ih
theorem op_next (h : Inv I J) (i r : Int) : OpW m_C_next m_D_next [some (vr 0 0), some (vi i), some (vi r), none, none, none, none, none, none] [some (vr 39 0), some (vi i), some (vi r), none, none, none, none, none, none] sc I J := by
  obtain ⟨n1, n2, n3, n4, n5, n6, n7, n8, n9⟩ := inv_num h
  by_cases hb : 0 ≤ i ∧ i < I 39 0 4
  · by_cases hb2 : 0 ≤ r ∧ r ≤ 5
    · obtain ⟨i0, i4⟩ := hb
      obtain ⟨r0, r5⟩ := hb2
      obtain ⟨i, rfl⟩ := Int.eq_ofNat_of_zero_le i0
      obtain ⟨r, rfl⟩ := Int.eq_ofNat_of_zero_le r0
      obtain ⟨p1, p2, p3, p4, p5, p6, p7⟩ := inv_pas h i4
      have r6 : (r : Int) < 6 := by omega
      have hL := lf3_in p6
      rcases pairchk h (r := r) (by omega) with ⟨f, f1, f6, hC, hD⟩ | ⟨H, s1, s2, s3, s4, s5, hC, hD⟩
      · have f0 : ¬ (f : Int) = 0 := by omega
        refine opW_fd h f6 (fun d Q hQ => ?_) (fun d Q hQ => ?_)
        · simp only [b_C_next_0, b_C_next_5, b_C_next_8, b_C_next_12, b_C_next_15, b_C_next_17, b_C_next_24, b_C_next_27, b_C_next_32, s_C_isP h, s_C_isRow, hC, i0, i4, r0, r5, r6, i10, ap_s, ap_n, and_self, and_true, true_and, if_true, if_false, not_true_eq_false, not_false_eq_true, Int.toNat_natCast]
          exact hQ
        · simp only [b_D_next_0, b_D_next_5, b_D_next_8, b_D_next_12, b_D_next_15, b_D_next_17, b_D_next_22, b_D_next_27, b_D_next_32, s_D_isOne (I := fdC I f) n2 n3, s_D_isRow, hD _ _ sc (fdC I f) J rfl rfl, s_D_found f6, fC39, f0, i0, i4, r0, r5, r6, i10, ap_s, ap_n, and_self, and_true, true_and, if_true, if_false, not_true_eq_false, not_false_eq_true, Int.toNat_natCast]
          exact hQ
      · have lc : ∀ (d : Nat) (Q : Option AV → AMem → Prop), X (d + 5) m_C_kindsThatFit 0 [some (vr 0 0), some (vi (i : Int)), some (vr 28 r), none, none] [] (MM sc I J) Q ↔ Q (some (vi (kfF (lf3 (I 46 0) i) (I 46 0 0) (I 29 r) H 6))) (MM sc I J) := fun d Q => by
          rw [s_C_ktf p1 s3 s1 (by omega) (by omega) s4, p4, n4]
        have kin := kf_in (L := lf3 (I 46 0) i) (n := I 46 0 0) (f := I 29 r) (H := H) 6 (by omega)
        have ko : ∀ (d : Nat) (Q : Option AV → AMem → Prop) (a b : TI), a 40 = I 40 → a 41 = I 41 → a 46 = I 46 → (∀ s, Q (some (vi (kfF (lf3 (I 46 0) i) (I 46 0 0) (I 29 r) H 6))) (MM sc (up2 a 47 0 s) b)) → X (d + 4) m_D_kindsOf 0 [some (vr 39 0), some (vi (i : Int)), some (vi (r : Int)), none, none, none, none, none] [] (MM sc a b) Q := fun d Q a b ha1 ha2 ha3 hq => by
          have := s_D_kindsOf (d := d) (sc := sc) (I := a) (J := b) (i := i) (r := r) (H := H) (f := I 29 r) (s := a 47 0) (Q := Q) p1 (by omega) s3 (by rw [ha1]; exact s2) (by rw [ha3]; exact p6) (by rw [ha3]; exact p7) (by rw [ha3]; omega) (fun j hj => by rw [ha2]; exact (s5 j hj).symm) s4 (by rw [ha3]; exact hq)
          rw [up2_self] at this
          exact this
        generalize hset : kfF (lf3 (I 46 0) i) (I 46 0 0) (I 29 r) H 6 = set at *
        by_cases k0 : set = 0
        · refine ⟨(-9), fun a b => a = I ∧ b = J, fun d Q hQ => ?_, fun a b hab d Q hQ => ?_⟩
          · simp only [b_C_next_0, b_C_next_5, b_C_next_8, b_C_next_12, b_C_next_15, b_C_next_17, b_C_next_24, b_C_next_27, b_C_next_32, b_C_next_34, b_C_next_42, b_C_next_45, b_C_next_52, s_C_isP h, s_C_isRow, hC, lc, k0, i0, i4, r0, r5, r6, i10, ap_s, ap_n, and_self, and_true, true_and, if_true, if_false, not_true_eq_false, not_false_eq_true, Int.toNat_natCast]
            exact hQ _ _ ⟨rfl, rfl⟩
          · obtain ⟨e1, e2⟩ := hab
            subst e1 e2
            simp only [b_D_next_0, b_D_next_5, b_D_next_8, b_D_next_12, b_D_next_15, b_D_next_17, b_D_next_22, b_D_next_27, b_D_next_32, b_D_next_33, s_D_isOne n2 n3, s_D_isRow, hD _ _ sc a b rfl rfl, i0, i4, r0, r5, r6, i10, ap_s, ap_n, and_self, and_true, true_and, if_true, if_false, not_true_eq_false, not_false_eq_true, Int.toNat_natCast]
            refine ko _ _ a b rfl rfl rfl (fun s => ?_)
            rw [ap_s, b_D_next_39, if_pos k0, b_D_next_46]
            refine hQ _ _ ?_
            obtain ⟨h1, h2, h3, h4, h5, h6⟩ := h
            exact ⟨h1, h2, h3, h4, h5, h6⟩
        · refine ⟨(nB (fun c => gF (bs set) (tk (lf3 (I 46 0) i) c (I 46 0 0)) 6) 7), fun a b => (∃ p, a = upI (up2 I 12 0 p) 0 0 6 (nL (fun c => gF (bs set) (tk (lf3 (I 46 0) i) c (I 46 0 0)) 6) 7)) ∧ b = J, fun d Q hQ => ?_, fun a b hab d Q hQ => ?_⟩
          · simp only [b_C_next_0, b_C_next_5, b_C_next_8, b_C_next_12, b_C_next_15, b_C_next_17, b_C_next_24, b_C_next_27, b_C_next_32, b_C_next_34, b_C_next_42, b_C_next_45, b_C_next_52, b_C_next_55, s_C_isP h, s_C_isRow, hC, lc, k0, i0, i4, r0, r5, r6, i10, ap_s, ap_n, and_self, and_true, true_and, if_true, if_false, not_true_eq_false, not_false_eq_true, Int.toNat_natCast]
            have := l_C_nx (d := d + 15) (Q := Q) (sc := sc) (I := I) (J := J) (i := i) (set := set) (x2 := r) (x3 := 0) p1 kin (by omega) (by omega) (by
              rw [p4, n4]
              exact fun p => hQ _ _ ⟨⟨p, rfl⟩, rfl⟩) 7 0 (I 12 0) none (by omega)
            rw [up2_self] at this
            exact this
          · obtain ⟨⟨p, e1⟩, e2⟩ := hab
            subst e1 e2
            generalize hv : nL (fun c => gF (bs set) (tk (lf3 (I 46 0) i) c (I 46 0 0)) 6) 7 = v at *
            simp only [b_D_next_0, b_D_next_5, b_D_next_8, b_D_next_12, b_D_next_15, b_D_next_17, b_D_next_22, b_D_next_27, b_D_next_32, b_D_next_33, s_D_isOne (I := upI (up2 I 12 0 p) 0 0 6 v) n2 n3, s_D_isRow, hD _ _ sc (upI (up2 I 12 0 p) 0 0 6 v) b rfl rfl, show upI (up2 I 12 0 p) 0 0 6 v 39 = I 39 from rfl, i0, i4, r0, r5, r6, i10, ap_s, ap_n, and_self, and_true, true_and, if_true, if_false, not_true_eq_false, not_false_eq_true, Int.toNat_natCast]
            refine ko _ _ (upI (up2 I 12 0 p) 0 0 6 v) b rfl rfl rfl (fun s => ?_)
            rw [ap_s, b_D_next_39, if_neg k0, b_D_next_49]
            have := l_D_nx (d := d + 16) (Q := Q) (sc := sc) (I := upI (up2 I 12 0 p) 0 0 6 v) (J := b) (i := i) (set := set) (x2 := r) (x3 := 0) p1 kin p6 p7 ⟨n5, show I 46 0 0 ≤ 900 by omega⟩ (fun s g => by
              show Q (some (vi (nB (fun c => gF (bs set) (tk (lf3 (I 46 0) i) c (I 46 0 0)) 6) 7))) (MM sc (upI (up2 (up2 (upI (up2 I 12 0 p) 0 0 6 v) 61 0 g) 47 0 s) 39 0 12 (nL (fun c => gF (bs set) (tk (lf3 (I 46 0) i) c (I 46 0 0)) 6) 7)) b)
              rw [hv]
              refine hQ _ _ ?_
              obtain ⟨h1, h2, h3, h4, h5, a1, a2, a3, a4, a5⟩ := h
              exact ⟨h1, h2, h3, h4, h5, a1, rfl, a3, a4, a5⟩) 7 0 s (upI (up2 I 12 0 p) 0 0 6 v 61 0) none (by omega)
            rw [up2_self] at this
            exact this
    · refine opW_no h (-1) (fun d Q hQ => ?_) (fun d Q hQ => ?_)
      · simp only [b_C_next_0, b_C_next_5, b_C_next_8, b_C_next_12, b_C_next_15, s_C_isP h, s_C_isRow, hb, hb2, i10, ap_s, ap_n, and_self, and_true, true_and, if_true, if_false, not_true_eq_false, not_false_eq_true, Int.toNat_natCast]
        exact hQ
      · simp only [b_D_next_0, b_D_next_5, b_D_next_8, b_D_next_12, b_D_next_15, s_D_isOne n2 n3, s_D_isRow, hb, hb2, i10, ap_s, ap_n, and_self, and_true, true_and, if_true, if_false, not_true_eq_false, not_false_eq_true, Int.toNat_natCast]
        exact hQ
  · refine opW_no h (-1) (fun d Q hQ => ?_) (fun d Q hQ => ?_)
    · simp only [b_C_next_0, b_C_next_5, b_C_next_8, b_C_next_12, b_C_next_15, s_C_isP h, s_C_isRow, hb, i10, ap_s, ap_n, and_self, and_true, true_and, if_true, if_false, not_true_eq_false, not_false_eq_true, Int.toNat_natCast]
      exact hQ
    · simp only [b_D_next_0, b_D_next_5, b_D_next_8, b_D_next_12, b_D_next_15, s_D_isOne n2 n3, s_D_isRow, hb, i10, ap_s, ap_n, and_self, and_true, true_and, if_true, if_false, not_true_eq_false, not_false_eq_true, Int.toNat_natCast]
      exact hQ
end NY
