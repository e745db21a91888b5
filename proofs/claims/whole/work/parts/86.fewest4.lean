/-! FEWEST, the calls -/
section FG
variable {d : Nat} {Q : Option AV → AMem → Prop} {sc : SC} {I J : TI}
theorem inv_few {a p s w : Nat → Int} {to N q : Nat} {I' : TI} (h : Inv I J) (hto : to < 6) (hN : N ≤ 4) (hp : ∀ j, j < N → p j = dgt N q j) (fr : ∀ t i p1 : Nat, ¬ (t = 41 ∧ i = 0 ∧ 40 * to ≤ p1 ∧ p1 < 40 * to + N) → I' t i p1 = dmI (up2 (fwC (up2 (up2 (up2 I 32 0 w) 30 0 a) 31 0 p) to N) 47 0 s) to N t i p1) (dg' : ∀ j, j < N → I' 41 0 (40 * to + j) = dgt N q j) : Inv I' J := by
  have hB : Inv (up2 (up2 (up2 (up2 I 32 0 w) 30 0 a) 31 0 p) 47 0 s) J := by
    obtain ⟨h1, h2, h3, h4, h5, h6⟩ := h
    exact ⟨h1, h2, h3, h4, h5, h6⟩
  have a2 := h.2.2.2.2.2.2.1
  refine inv_R hB hto (n := N) (by omega) (fun t i p1 b1 b2 b3 b4 b5 b6 => ?_) ?_ ?_ ?_ (fun p1 hp1 => ?_)
  · rw [fr t i p1 (by omega)]
    simp only [dmI, flI, fwC, rnI, rd_up, rd_up2]
    rw [if_neg (by omega), if_neg (by omega)]
    by_cases z : t = 47 ∧ i = 0
    · rw [if_pos z, if_pos z]
    · rw [if_neg z, if_neg z, if_neg (by omega), if_neg (by omega), if_neg (by omega)]
  · rw [fr 0 0 6 (by omega), fr 39 0 12 (by omega)]
    simp only [dmI, flI, fwC, rnI, rd_up, rd_up2]
    simpa using a2
  · rw [fr 28 to 1 (by omega)]
    simp [dmI, flI, fwC, rnI, rd_up, rd_up2]
  · rw [fr 40 0 to (by omega)]
    simp [dmI, flI, rd_up]
  · have p1N : p1 < N := by omega
    rw [fr 29 to p1 (by omega), dg' p1 p1N, ← hp p1 p1N]
    simp [dmI, flI, fwC, rnI, rd_up, rd_up2, cpF, p1N]
theorem op_fewest (h : Inv I J) (i r bank to : Int) : OpW m_C_fewest m_D_fewest [some (vr 0 0), some (vi i), some (vi r), some (vi bank), some (vi to), none, none] [some (vr 39 0), some (vi i), some (vi r), some (vi bank), some (vi to), none, none, none, none, none] sc I J := by
  obtain ⟨n1, n2, n3, n4, n5, n6, n7, n8, n9⟩ := inv_num h
  by_cases hb : 0 ≤ i ∧ i < I 39 0 4
  · by_cases hb2 : 0 ≤ r ∧ r ≤ 5
    · by_cases hb4 : 0 ≤ to ∧ to ≤ 5
      · by_cases hb3 : -1 ≤ bank ∧ bank ≤ 1
        · obtain ⟨i0, i4⟩ := hb
          obtain ⟨r0, r5⟩ := hb2
          obtain ⟨t0, t5⟩ := hb4
          obtain ⟨k0, k1⟩ := hb3
          have kk : ¬ bank < -1 := by omega
          obtain ⟨i, rfl⟩ := Int.eq_ofNat_of_zero_le i0
          obtain ⟨r, rfl⟩ := Int.eq_ofNat_of_zero_le r0
          obtain ⟨to, rfl⟩ := Int.eq_ofNat_of_zero_le t0
          obtain ⟨p1, p2, p3, p4, p5, p6, p7⟩ := inv_pas h i4
          have r6 : (r : Int) < 6 := by omega
          have i6 : (i : Int) < 6 := by omega
          have hto : to < 6 := by omega
          have hL := lf3_in p6
          rcases rowchk h (r := r) (by omega) 3 3 (-1) 9 with ⟨f, f1, f6, hC, hD⟩ | ⟨S, s1, s2, s3, s4, s5, s6, s7, hC, hD⟩
          · have f0 : ¬ (f : Int) = 0 := by omega
            refine opW_fd h f6 (fun d Q hQ => ?_) (fun d Q hQ => ?_)
            · simp only [b_C_fewest_0, b_C_fewest_5, b_C_fewest_8, b_C_fewest_12, b_C_fewest_15, b_C_fewest_20, b_C_fewest_23, b_C_fewest_28, b_C_fewest_33, b_C_fewest_35, b_C_fewest_42, b_C_fewest_50, b_C_fewest_57, s_C_isP h, s_C_isRow, hC, i0, i4, r0, r5, r6, t0, t5, kk, k1, i10, ap_s, ap_n, and_self, and_true, true_and, if_true, if_false, not_true_eq_false, not_false_eq_true, Int.toNat_natCast]
              exact hQ
            · simp only [b_D_fewest_0, b_D_fewest_5, b_D_fewest_8, b_D_fewest_12, b_D_fewest_15, b_D_fewest_21, b_D_fewest_24, b_D_fewest_29, b_D_fewest_32, b_D_fewest_34, b_D_fewest_44, b_D_fewest_51, b_D_fewest_57, s_D_isOne (I := fdC I f) n2 n3, s_D_isRow, s_D_in, hD _ _ sc (fdC I f) J rfl rfl, s_D_found f6, fC39, f0, i0, i4, r0, r5, r6, t0, t5, k0, k1, i10, ap_s, ap_n, and_self, and_true, true_and, if_true, if_false, not_true_eq_false, not_false_eq_true, Int.toNat_natCast]
              exact hQ
          · have hn9 : 0 ≤ I 46 0 0 ∧ I 46 0 0 ≤ 900 := by omega
            have wa := (s6 0 (by omega)).1
            have wb := (s6 1 (by omega)).1
            have we := (s6 2 (by omega)).1
            have ll : (0 : Int) + 3 ≤ ((lenP r : Nat) : Int) := by unfold lenP; split <;> decide
            have b01 : I 23 0 i = 0 ∨ I 23 0 i = 1 := by rw [p5]; exact p7
            generalize hw : cpF (I 29 r) (I 32 0) 0 0 3 = w
            have w0 : w 0 = I 29 r 0 := by rw [← hw]; rfl
            have w1 : w 1 = I 29 r 1 := by rw [← hw]; rfl
            have w2 : w 2 = I 29 r 2 := by rw [← hw]; rfl
            have start : ∀ (d : Nat) (Q : Option AV → AMem → Prop), X (d + 20) m_C_fewest 123 [some (vr 0 0), some (vi (i : Int)), some (vi (r : Int)), some (vi bank), some (vi (to : Int)), some (vi 0), some (vi 0)] [] (MM sc (up2 (up2 (up2 I 32 0 w) 30 0 (upF (upF (upF (I 30 0) 2 (I 45 0 i)) 3 (I 46 0 0)) 5 bank)) 31 0 (I 31 0)) J) Q → X (d + 20) m_C_fewest 0 [some (vr 0 0), some (vi (i : Int)), some (vi (r : Int)), some (vi bank), some (vi (to : Int)), none, none] [] (MM sc I J) Q := fun d Q hX => by
              simp only [b_C_fewest_0, b_C_fewest_5, b_C_fewest_8, b_C_fewest_12, b_C_fewest_15, b_C_fewest_20, b_C_fewest_23, b_C_fewest_28, b_C_fewest_33, b_C_fewest_35, b_C_fewest_42, b_C_fewest_50, b_C_fewest_57, s_C_isP h, s_C_isRow, hC, i0, i4, r0, r5, r6, t0, t5, kk, k1, i10, ap_s, ap_n, and_self, and_true, true_and, if_true, if_false, not_true_eq_false, not_false_eq_true, Int.toNat_natCast]
              rw [b_C_fewest_60, and_iff_right ⟨i0, i6⟩, Int.toNat_natCast, p2, b_C_fewest_73, b_C_fewest_76, b_C_fewest_90, and_iff_right ⟨r0, r6⟩, Int.toNat_natCast, b_C_fewest_96, and_iff_right ⟨Int.le_refl _, Int.le_refl _, by decide, ll, by decide⟩, b_C_fewest_112, b_C_fewest_120]
              have em : upI (up2 (upI (upI I 30 0 2 (I 45 0 i)) 30 0 3 (I 46 0 0)) 32 0 w) 30 0 5 bank = up2 (up2 (up2 I 32 0 w) 30 0 (upF (upF (upF (I 30 0) 2 (I 45 0 i)) 3 (I 46 0 0)) 5 bank)) 31 0 (I 31 0) := by
                rw [show upI I 30 0 2 (I 45 0 i) = up2 I 30 0 (upF (I 30 0) 2 (I 45 0 i)) from rfl, up2_up, upI_cm (by decide), up2_up, up2_cm (by decide)]
                exact (up2_self (I := up2 (up2 I 32 0 w) 30 0 (upF (upF (upF (I 30 0) 2 (I 45 0 i)) 3 (I 46 0 0)) 5 bank)) (t := 31) (i := 0)).symm
              show X (d + 20) m_C_fewest 123 _ [] (MM sc (upI (up2 (upI (upI I 30 0 2 (I 45 0 i)) 30 0 3 (I 20 0 8)) 32 0 (cpF (I 29 r) (I 32 0) 0 0 3)) 30 0 5 bank) J) Q
              rw [hw, n4, em]
              exact hX
            by_cases hE : ∃ n, n ≤ 4 ∧ ∃ q, q < 7 ^ n ∧ okF bank (I 29 r 0) (I 29 r 1) (I 29 r 2) (fL (I 45 0 i) (lf3 (I 46 0) i) (I 46 0 0) n q) (fB (I 45 0 i) (lf3 (I 46 0) i) (I 46 0 0) (I 46 0 (19 + i)) n q)
            · obtain ⟨n', n'4, hq'⟩ := hE
              obtain ⟨N, ⟨q', q'1, q'2⟩, NN, Nl⟩ := least_of (F := fun n => ∃ q, q < 7 ^ n ∧ okF bank (I 29 r 0) (I 29 r 1) (I 29 r 2) (fL (I 45 0 i) (lf3 (I 46 0) i) (I 46 0 0) n q) (fB (I 45 0 i) (lf3 (I 46 0) i) (I 46 0 0) (I 46 0 (19 + i)) n q)) n' hq'
              obtain ⟨q, qok, qle, ql⟩ := least_of (F := fun q => okF bank (I 29 r 0) (I 29 r 1) (I 29 r 2) (fL (I 45 0 i) (lf3 (I 46 0) i) (I 46 0 0) N q) (fB (I 45 0 i) (lf3 (I 46 0) i) (I 46 0 0) (I 46 0 (19 + i)) N q)) q' q'2
              have N4 : N ≤ 4 := by omega
              have q7 : q < 7 ^ N := by omega
              have pl := p7_le N4
              have hno : ∀ n, n < N → ∀ q, q < 7 ^ n → ¬ okF bank (I 29 r 0) (I 29 r 1) (I 29 r 2) (fL (I 45 0 i) (lf3 (I 46 0) i) (I 46 0 0) n q) (fB (I 45 0 i) (lf3 (I 46 0) i) (I 46 0 0) (I 46 0 (19 + i)) n q) := fun n hn q hq z => Nl n hn ⟨q, hq, z⟩
              refine ⟨(N : Int), fun x y => (∃ a p : Nat → Int, (∀ j, j < N → p j = dgt N q j) ∧ x = fwC (up2 (up2 (up2 I 32 0 w) 30 0 a) 31 0 p) to N) ∧ y = J, fun d Q hQ => ?_, fun x y hxy d Q hQ => ?_⟩
              · refine start d Q ?_
                refine l_C_fs (d := d + 12) (I := up2 I 32 0 w) (k := I 45 0 i) (L0 := lf3 (I 46 0) i) (n0 := I 46 0 0) (b0 := I 46 0 (19 + i)) (N := N) p1 hL p7 hn9 (by omega) p4 p5 w0 w1 w2 hno (fun a p a2 a3 a5 => ?_) N 0 _ _ (Nat.zero_add _) rfl rfl rfl
                exact l_C_ff (d := d + 12) (I := up2 I 32 0 w) (k := I 45 0 i) (L0 := lf3 (I 46 0) i) (n0 := I 46 0 0) (b0 := I 46 0 (19 + i)) (N := N) (q0 := q) p1 hto hL p7 hn9 N4 p4 p5 w0 w1 w2 a2 a3 a5 q7 qok ql (fun a' p' hp' => hQ _ _ ⟨⟨a', p', hp', rfl⟩, rfl⟩)
              · obtain ⟨⟨a, p, hp, e1⟩, e2⟩ := hxy
                subst e2
                have x39 : x 39 = I 39 := by rw [e1]; rfl
                have x40 : x 40 = I 40 := by rw [e1]; rfl
                have x41 : x 41 = I 41 := by rw [e1]; rfl
                have x45 : x 45 = I 45 := by rw [e1]; rfl
                have x46 : x 46 = I 46 := by rw [e1]; rfl
                have q24 : q ≤ 2401 := by omega
                have q24' : q ≤ 7 ^ N := by omega
                have nle : ¬ ((7 ^ N : Nat) : Int) ≤ (q : Int) := by omega
                have i19 : 0 ≤ ((19 + i : Nat) : Int) ∧ ((19 + i : Nat) : Int) < 25 := by omega
                simp only [b_D_fewest_0, b_D_fewest_5, b_D_fewest_8, b_D_fewest_12, b_D_fewest_15, b_D_fewest_21, b_D_fewest_24, b_D_fewest_29, b_D_fewest_32, b_D_fewest_34, b_D_fewest_44, b_D_fewest_51, b_D_fewest_57, b_D_fewest_58, s_D_isOne (I := x) (by rw [x39]; exact n2) (by rw [x39]; exact n3), s_D_isRow, s_D_in, hD _ _ sc x y x40 x41, x39, i0, i4, r0, r5, r6, t0, t5, k0, k1, i10, ap_s, ap_n, and_self, and_true, true_and, if_true, if_false, not_true_eq_false, not_false_eq_true, Int.toNat_natCast]
                have ea : x 41 0 (40 * r) = I 29 r 0 := by rw [x41]; exact (s7 0 (by omega)).symm
                have eb : x 41 0 (40 * r + 1) = I 29 r 1 := by rw [x41]; exact (s7 1 (by omega)).symm
                have ee : x 41 0 (40 * r + 2) = I 29 r 2 := by rw [x41]; exact (s7 2 (by omega)).symm
                have key := l_D_fl2 (d := d + 16) (Q := Q) (sc := sc) (I := x) (J := y) (bank := bank) (x5 := 0) (i := i) (r := r) (to := to) (N := N) p1 (by omega) (by rw [x45]; exact p3) (by rw [x46]; exact p6) (by rw [x46]; exact p7) (by rw [x46]; exact hn9) (by omega) ea eb ee wa wb we k0 (by rw [x45, x46]; exact hno) (fun s o7 => by
                  rw [b_D_fewest_61, if_neg (by omega), b_D_fewest_67]
                  refine l_D_fq (d := d + 16) (I := x) (q0 := q) p1 (by omega) (by rw [x45]; exact p3) (by rw [x46]; exact p6) (by rw [x46]; exact p7) (by rw [x46]; exact hn9) N4 q24' ea eb ee wa wb we k0 (by rw [x45, x46]; exact ql) (fun s' => ?_) q 0 s (Nat.zero_add _)
                  rw [b_D_fewest_70, s_D_codesOf N4, ap_s, b_D_fewest_77, if_neg nle, b_D_fewest_80]
                  refine s_D_cb (I := x) p1 (by rw [x45]; exact p3) (by rw [x46]; exact p6) (by rw [x46]; exact p7) (by rw [x46]; exact hn9) N4 q24 (fun s2 g1 g2 g3 => ?_)
                  rw [x45, x46] at g1 g3
                  have row : X (d + 16 + 4) m_D_fewest 119 [some (vr 39 0), some (vi (i : Int)), some (vi (r : Int)), some (vi bank), some (vi (to : Int)), some (vi 0), some (vi (N : Int)), some (vi (q : Int)), none, none] [] (MM sc (up2 x 47 0 s2) y) Q := by
                    have wN : w32 ((N : Int) - 1) = (N : Int) - 1 := w32_eq (by omega) (by omega)
                    have dgs := l_D_dg (d := d + 16 + 4) (Q := Q) (sc := sc) (J := y) (bank := bank) (x1 := (i : Int)) (x2 := (r : Int)) (x5 := 0) (to := to) (n := N) (q := q) (I0 := dmI (up2 x 47 0 s2) to N) hto N4 q24 (fun I' h1 h2 => hQ _ _ (by
                      rw [e1] at h1
                      exact inv_few h hto N4 hp h1 h2)) N (dmI (up2 x 47 0 s2) to N) (Nat.le_refl _) (fun _ _ _ _ => rfl) (fun j hj1 hj2 => by omega)
                    rw [Nat.sub_self, Nat.pow_zero, Nat.div_one] at dgs
                    rw [b_D_fewest_119, s_D_makesRow hto (Nat.le_trans N4 (by decide)), ap_n, b_D_fewest_127, wN]
                    exact dgs
                  rw [ap_n, b_D_fewest_89, s_D_isLife (L := fL (I 45 0 i) (lf3 (I 46 0) i) (I 46 0 0) N q) p1 (by omega) g2 g1 ea eb ee wa wb we, ap_s, b_D_fewest_99, if_neg (by rw [qok.2]; decide), b_D_fewest_102]
                  by_cases z : bank < 0
                  · rw [if_pos z]
                    exact row
                  · have bz : fB (I 45 0 i) (lf3 (I 46 0) i) (I 46 0 0) (I 46 0 (19 + i)) N q = bank := by
                      rcases qok.1 with y1 | y1
                      · omega
                      · exact y1.symm
                    rw [if_neg z, b_D_fewest_106, w19 p1, and_iff_right i19, Int.toNat_natCast, up2_same, g3, b_D_fewest_115, if_pos bz]
                    exact row) N 0 (x 47 0) none (Nat.zero_add _)
                rw [up2_self] at key
                exact key
            · have hno : ∀ n, n < 5 → ∀ q, q < 7 ^ n → ¬ okF bank (I 29 r 0) (I 29 r 1) (I 29 r 2) (fL (I 45 0 i) (lf3 (I 46 0) i) (I 46 0 0) n q) (fB (I 45 0 i) (lf3 (I 46 0) i) (I 46 0 0) (I 46 0 (19 + i)) n q) := fun n hn q hq z => hE ⟨n, by omega, q, hq, z⟩
              refine ⟨(-9), fun x y => (∃ a p : Nat → Int, x = up2 (up2 (up2 I 32 0 w) 30 0 a) 31 0 p) ∧ y = J, fun d Q hQ => ?_, fun x y hxy d Q hQ => ?_⟩
              · refine start d Q ?_
                refine l_C_fs (d := d + 12) (I := up2 I 32 0 w) (k := I 45 0 i) (L0 := lf3 (I 46 0) i) (n0 := I 46 0 0) (b0 := I 46 0 (19 + i)) (N := 5) p1 hL p7 hn9 (by omega) p4 p5 w0 w1 w2 hno (fun a p a2 a3 a5 => ?_) 5 0 _ _ (Nat.zero_add _) rfl rfl rfl
                rw [b_C_fewest_123, if_pos (by decide), b_C_fewest_213]
                exact hQ _ _ ⟨⟨a, p, rfl⟩, rfl⟩
              · obtain ⟨⟨a, p, e1⟩, e2⟩ := hxy
                subst e2
                have x39 : x 39 = I 39 := by rw [e1]; rfl
                have x40 : x 40 = I 40 := by rw [e1]; rfl
                have x41 : x 41 = I 41 := by rw [e1]; rfl
                have x45 : x 45 = I 45 := by rw [e1]; rfl
                have x46 : x 46 = I 46 := by rw [e1]; rfl
                simp only [b_D_fewest_0, b_D_fewest_5, b_D_fewest_8, b_D_fewest_12, b_D_fewest_15, b_D_fewest_21, b_D_fewest_24, b_D_fewest_29, b_D_fewest_32, b_D_fewest_34, b_D_fewest_44, b_D_fewest_51, b_D_fewest_57, b_D_fewest_58, s_D_isOne (I := x) (by rw [x39]; exact n2) (by rw [x39]; exact n3), s_D_isRow, s_D_in, hD _ _ sc x y x40 x41, x39, i0, i4, r0, r5, r6, t0, t5, k0, k1, i10, ap_s, ap_n, and_self, and_true, true_and, if_true, if_false, not_true_eq_false, not_false_eq_true, Int.toNat_natCast]
                have ea : x 41 0 (40 * r) = I 29 r 0 := by rw [x41]; exact (s7 0 (by omega)).symm
                have eb : x 41 0 (40 * r + 1) = I 29 r 1 := by rw [x41]; exact (s7 1 (by omega)).symm
                have ee : x 41 0 (40 * r + 2) = I 29 r 2 := by rw [x41]; exact (s7 2 (by omega)).symm
                have key := l_D_fl2 (d := d + 16) (Q := Q) (sc := sc) (I := x) (J := y) (bank := bank) (x5 := 0) (i := i) (r := r) (to := to) (N := 5) p1 (by omega) (by rw [x45]; exact p3) (by rw [x46]; exact p6) (by rw [x46]; exact p7) (by rw [x46]; exact hn9) (by omega) ea eb ee wa wb we k0 (by rw [x45, x46]; exact hno) (fun s o7 => by
                  rw [b_D_fewest_61, if_pos (by decide), b_D_fewest_188]
                  refine hQ _ _ ?_
                  rw [e1]
                  obtain ⟨h1, h2, h3, h4, h5, h6⟩ := h
                  exact ⟨h1, h2, h3, h4, h5, h6⟩) 5 0 (x 47 0) none (Nat.zero_add _)
                rw [up2_self] at key
                exact key
        · refine opW_no h (-1) (fun d Q hQ => ?_) (fun d Q hQ => ?_)
          · simp only [b_C_fewest_0, b_C_fewest_5, b_C_fewest_8, b_C_fewest_12, b_C_fewest_15, b_C_fewest_20, b_C_fewest_23, b_C_fewest_28, b_C_fewest_33, s_C_isP h, s_C_isRow, hb, hb2, hb4, i10, ap_s, ap_n, and_self, and_true, true_and, if_true, if_false, not_true_eq_false, not_false_eq_true, Int.toNat_natCast]
            (repeat' split) <;> first | exact hQ | (exfalso; omega)
          · simp only [b_D_fewest_0, b_D_fewest_5, b_D_fewest_8, b_D_fewest_12, b_D_fewest_15, b_D_fewest_21, b_D_fewest_24, b_D_fewest_29, b_D_fewest_32, s_D_isOne n2 n3, s_D_isRow, s_D_in, hb, hb2, hb3, i10, ap_s, ap_n, and_self, and_true, true_and, if_true, if_false, not_true_eq_false, not_false_eq_true, Int.toNat_natCast]
            exact hQ
      · refine opW_no h (-1) (fun d Q hQ => ?_) (fun d Q hQ => ?_)
        · simp only [b_C_fewest_0, b_C_fewest_5, b_C_fewest_8, b_C_fewest_12, b_C_fewest_15, b_C_fewest_20, b_C_fewest_23, b_C_fewest_28, b_C_fewest_33, s_C_isP h, s_C_isRow, hb, hb2, hb4, i10, ap_s, ap_n, and_self, and_true, true_and, if_true, if_false, not_true_eq_false, not_false_eq_true, Int.toNat_natCast]
          exact hQ
        · simp only [b_D_fewest_0, b_D_fewest_5, b_D_fewest_8, b_D_fewest_12, b_D_fewest_15, b_D_fewest_21, b_D_fewest_24, b_D_fewest_29, b_D_fewest_32, s_D_isOne n2 n3, s_D_isRow, s_D_in, hb, hb2, hb4, i10, ap_s, ap_n, and_self, and_true, true_and, if_true, if_false, not_true_eq_false, not_false_eq_true, Int.toNat_natCast]
          (repeat' split) <;> first | exact hQ | (exfalso; simp_all; done)
    · refine opW_no h (-1) (fun d Q hQ => ?_) (fun d Q hQ => ?_)
      · simp only [b_C_fewest_0, b_C_fewest_5, b_C_fewest_8, b_C_fewest_12, b_C_fewest_15, b_C_fewest_20, b_C_fewest_23, b_C_fewest_28, b_C_fewest_33, s_C_isP h, s_C_isRow, hb, hb2, i10, ap_s, ap_n, and_self, and_true, true_and, if_true, if_false, not_true_eq_false, not_false_eq_true, Int.toNat_natCast]
        exact hQ
      · simp only [b_D_fewest_0, b_D_fewest_5, b_D_fewest_8, b_D_fewest_12, b_D_fewest_15, b_D_fewest_21, b_D_fewest_24, b_D_fewest_29, b_D_fewest_32, s_D_isOne n2 n3, s_D_isRow, hb, hb2, i10, ap_s, ap_n, and_self, and_true, true_and, if_true, if_false, not_true_eq_false, not_false_eq_true, Int.toNat_natCast]
        exact hQ
  · refine opW_no h (-1) (fun d Q hQ => ?_) (fun d Q hQ => ?_)
    · simp only [b_C_fewest_0, b_C_fewest_5, b_C_fewest_8, b_C_fewest_12, b_C_fewest_15, b_C_fewest_20, b_C_fewest_23, b_C_fewest_28, b_C_fewest_33, s_C_isP h, s_C_isRow, hb, i10, ap_s, ap_n, and_self, and_true, true_and, if_true, if_false, not_true_eq_false, not_false_eq_true, Int.toNat_natCast]
      exact hQ
    · simp only [b_D_fewest_0, b_D_fewest_5, b_D_fewest_8, b_D_fewest_12, b_D_fewest_15, b_D_fewest_21, b_D_fewest_24, b_D_fewest_29, b_D_fewest_32, s_D_isOne n2 n3, s_D_isRow, hb, i10, ap_s, ap_n, and_self, and_true, true_and, if_true, if_false, not_true_eq_false, not_false_eq_true, Int.toNat_natCast]
      exact hQ
end FG
