/-! LIVES, the reference and the calls -/
section LW
variable {d : Nat} {Q : Option AV → AMem → Prop} {sc : SC} {I J : TI}
theorem l_D_lz {i N : Nat} (hQ : ∀ M : Nat → Int, (∀ x, x < 1000 → M x = 0) → X d m_D_lives 46 [some (vr 39 0), some (vi (i : Int)), some (vi (N : Int)), some (vi 0), some (vi 1000), none, none] [] (MM sc (up2 I 60 0 M) J) Q) : ∀ (r y : Nat) (M : Nat → Int), y + r = 1000 → (∀ x, x < y → M x = 0) → X d m_D_lives 24 [some (vr 39 0), some (vi (i : Int)), some (vi (N : Int)), some (vi 0), some (vi (y : Int)), none, none] [] (MM sc (up2 I 60 0 M) J) Q
  | 0, y, M, e, h => by
    have e1 : y = 1000 := by omega
    subst e1
    rw [b_D_lives_24, if_pos (by decide)]
    exact hQ M h
  | r + 1, y, M, e, h => by
    have yx : 0 ≤ (y : Int) ∧ (y : Int) < 1000 := by omega
    rw [b_D_lives_24, if_neg (by omega), b_D_lives_32, and_iff_right yx, Int.toNat_natCast, up2_up, b_D_lives_40, wsuc (by omega)]
    refine l_D_lz hQ r (y + 1) _ (by omega) (fun x hx => ?_)
    by_cases z : x = y
    · exact if_pos z
    · exact (if_neg z).trans (h x (by omega))
theorem lk1 {M s : Nat → Int} {t : Nat} {v : Int} : upI (up2 (up2 I 60 0 M) 47 0 s) 60 0 t v = up2 (up2 I 60 0 (upF M t v)) 47 0 s := by
  rw [upI_cm (by decide), up2_up]
theorem l_D_lq {i N m : Nat} (hi : i < 6) (hk : 0 ≤ I 45 0 i ∧ I 45 0 i ≤ 5) (hd : dg3 (I 46 0) i) (hb : I 46 0 (19 + i) = 0 ∨ I 46 0 (19 + i) = 1) (hn : 0 ≤ I 46 0 0 ∧ I 46 0 0 ≤ 900) (hN : N ≤ 4) (hm : m ≤ N)
    (hQ : ∀ (M s : Nat → Int) (x3 x5 : Int) (o6 : Option AV), (∀ x, x < 1000 → M x ≠ 0 → RR (I 45 0 i) (lf3 (I 46 0) i) (I 46 0 0) N x) → (∀ q, q < 7 ^ m → M (fL (I 45 0 i) (lf3 (I 46 0) i) (I 46 0 0) m q).toNat ≠ 0) → x3 = 1000 - cf M 0 1000 → X (d + 4) m_D_lives 119 [some (vr 39 0), some (vi (i : Int)), some (vi (N : Int)), some (vi x3), some (vi (m : Int)), some (vi x5), o6] [] (MM sc (up2 (up2 I 60 0 M) 47 0 s) J) Q) : ∀ (r q : Nat) (M s : Nat → Int) (x3 : Int) (o6 : Option AV), q + r = 7 ^ m → (∀ x, x < 1000 → M x ≠ 0 → RR (I 45 0 i) (lf3 (I 46 0) i) (I 46 0 0) N x) → (∀ q', q' < q → M (fL (I 45 0 i) (lf3 (I 46 0) i) (I 46 0 0) m q').toNat ≠ 0) → x3 = 1000 - cf M 0 1000 → X (d + 4) m_D_lives 58 [some (vr 39 0), some (vi (i : Int)), some (vi (N : Int)), some (vi x3), some (vi (m : Int)), some (vi (q : Int)), o6] [] (MM sc (up2 (up2 I 60 0 M) 47 0 s) J) Q
  | 0, q, M, s, x3, o6, e, h1, h2, h3 => by
    have e1 : q = 7 ^ m := by omega
    subst e1
    rw [b_D_lives_58, s_D_codesOf (by omega), ap_s, b_D_lives_65, if_pos (Int.le_refl _)]
    exact hQ M s x3 _ o6 h1 h2 h3
  | r + 1, q, M, s, x3, o6, e, h1, h2, h3 => by
    have m4 : m ≤ 4 := by omega
    have pl := p7_le m4
    have q24 : q ≤ 2401 := by omega
    have qlt : q < 7 ^ m := by omega
    have er : q + 1 + r = 7 ^ m := by omega
    have nle : ¬ ((7 ^ m : Nat) : Int) ≤ (q : Int) := by omega
    have fin := fL_in (k := I 45 0 i) (n := I 46 0 0) (lf3_in hd) m q
    obtain ⟨t, ht⟩ := Int.eq_ofNat_of_zero_le fin.1
    have t1 : t < 1000 := by omega
    have tx : 0 ≤ (t : Int) ∧ (t : Int) < 1000 := by omega
    have rt : RR (I 45 0 i) (lf3 (I 46 0) i) (I 46 0 0) N t := by
      have := RR_le (k := I 45 0 i) (L := lf3 (I 46 0) i) (n := I 46 0 0) (m := m) (x := t) ⟨q, qlt, ht⟩ (N - m)
      rw [show m + (N - m) = N by omega] at this
      exact this
    have cin := cf_in (W := M) (v := 0) 1000
    have qs : q ≤ 100000 := by omega
    have xb : -2147483648 ≤ x3 + 1 ∧ x3 + 1 ≤ 2147483647 := by omega
    have xb0 : -2147483648 ≤ x3 + 0 ∧ x3 + 0 ≤ 2147483647 := by omega
    have snd : ∀ x, x < 1000 → upF M t 1 x ≠ 0 → RR (I 45 0 i) (lf3 (I 46 0) i) (I 46 0 0) N x := fun x hx hz => by
      by_cases z : x = t
      · rw [z]; exact rt
      · rw [show upF M t 1 x = M x from if_neg z] at hz
        exact h1 x hx hz
    have up : ∀ x, M x ≠ 0 → upF M t 1 x ≠ 0 := fun x hx => by
      by_cases z : x = t
      · rw [show upF M t 1 x = 1 from if_pos z]; decide
      · rw [show upF M t 1 x = M x from if_neg z]; exact hx
    have cmp : ∀ q', q' < q + 1 → upF M t 1 (fL (I 45 0 i) (lf3 (I 46 0) i) (I 46 0 0) m q').toNat ≠ 0 := fun q' hq' => by
      by_cases z : q' = q
      · rw [z, ht, Int.toNat_natCast, show upF M t 1 t = 1 from if_pos rfl]; decide
      · exact up _ (h2 q' (by omega))
    rw [b_D_lives_58, s_D_codesOf m4, ap_s, b_D_lives_65, if_neg nle, b_D_lives_68]
    refine s_D_cb (I := up2 I 60 0 M) hi hk hd hb hn m4 q24 (fun s' g1 g2 g3 => ?_)
    have g1' : lf3 s' i = (t : Int) := g1.trans ht
    have et : up2 (up2 I 60 0 M) 47 0 s' 60 0 t = M t := rfl
    rw [ap_n, b_D_lives_77, s_D_lifeOf (t := 47) (fun _ _ => rfl) hi (by rw [up2_same]; exact g2), up2_same, g1', ap_s, b_D_lives_85, and_iff_right tx, Int.toNat_natCast, et, b_D_lives_95]
    by_cases z : M t = 0
    · have cu := cf_up (f := M) (v := 0) (w := 1) z (by decide) (N := 1000) t1
      have h3' : x3 + 1 = 1000 - cf (upF M t 1) 0 1000 := by omega
      rw [if_pos z, b_D_lives_102, b_D_lives_103, and_iff_right tx, Int.toNat_natCast, lk1, w32_eq xb.1 xb.2, b_D_lives_113, wsuc qs]
      exact l_D_lq hi hk hd hb hn hN hm hQ r (q + 1) _ s' _ _ er snd cmp h3'
    · have cu := cf_ne (f := M) (v := 0) (w := 1) (x := t) (N := 1000) z (by decide)
      have h3' : x3 = 1000 - cf (upF M t 1) 0 1000 := by omega
      rw [if_neg z, b_D_lives_98, b_D_lives_103, and_iff_right tx, Int.toNat_natCast, lk1, w32_eq xb0.1 xb0.2, Int.add_zero, b_D_lives_113, wsuc qs]
      exact l_D_lq hi hk hd hb hn hN hm hQ r (q + 1) _ s' _ _ er snd cmp h3'
theorem l_D_ll {i N : Nat} (hi : i < 6) (hk : 0 ≤ I 45 0 i ∧ I 45 0 i ≤ 5) (hd : dg3 (I 46 0) i) (hb : I 46 0 (19 + i) = 0 ∨ I 46 0 (19 + i) = 1) (hn : 0 ≤ I 46 0 0 ∧ I 46 0 0 ≤ 900) (hN : N ≤ 4)
    (hQ : ∀ (M s : Nat → Int) (x3 : Int) (o5 o6 : Option AV), (∀ x, x < 1000 → M x ≠ 0 → RR (I 45 0 i) (lf3 (I 46 0) i) (I 46 0 0) N x) → (∀ q, q < 7 ^ N → M (fL (I 45 0 i) (lf3 (I 46 0) i) (I 46 0 0) N q).toNat ≠ 0) → x3 = 1000 - cf M 0 1000 → X (d + 4) m_D_lives 125 [some (vr 39 0), some (vi (i : Int)), some (vi (N : Int)), some (vi x3), some (vi ((N + 1 : Nat) : Int)), o5, o6] [] (MM sc (up2 (up2 I 60 0 M) 47 0 s) J) Q) : ∀ (r m : Nat) (M s : Nat → Int) (x3 : Int) (o5 o6 : Option AV), m + r = N + 1 → (∀ x, x < 1000 → M x ≠ 0 → RR (I 45 0 i) (lf3 (I 46 0) i) (I 46 0 0) N x) → (∀ m', m' + 1 = m → ∀ q, q < 7 ^ m' → M (fL (I 45 0 i) (lf3 (I 46 0) i) (I 46 0 0) m' q).toNat ≠ 0) → x3 = 1000 - cf M 0 1000 → X (d + 4) m_D_lives 49 [some (vr 39 0), some (vi (i : Int)), some (vi (N : Int)), some (vi x3), some (vi (m : Int)), o5, o6] [] (MM sc (up2 (up2 I 60 0 M) 47 0 s) J) Q
  | 0, m, M, s, x3, o5, o6, e, h1, h2, h3 => by
    have e1 : m = N + 1 := by omega
    subst e1
    rw [b_D_lives_49, if_pos (by omega)]
    exact hQ M s x3 o5 o6 h1 (h2 N rfl) h3
  | r + 1, m, M, s, x3, o5, o6, e, h1, h2, h3 => by
    rw [b_D_lives_49, if_neg (by omega), b_D_lives_55]
    refine l_D_lq hi hk hd hb hn hN (show m ≤ N by omega) (fun M' s' y3 x5 o6' g1 g2 g3 => ?_) (7 ^ m) 0 M s x3 o6 (Nat.zero_add _) h1 (fun q' hq' => by omega) h3
    rw [b_D_lives_119, wsuc (by omega)]
    refine l_D_ll hi hk hd hb hn hN hQ r (m + 1) M' s' y3 _ _ (by omega) g1 (fun m' hm' => ?_) g3
    have e2 : m' = m := by omega
    subst e2
    exact g2
theorem fl_up2 {f : Nat → Int} {v : Int} : up2 (flI I 11 0 0 1000 v) 11 0 f = up2 I 11 0 f := by
  funext t i p
  simp only [rd_up2, flI]
  by_cases z : t = 11 ∧ i = 0
  · rw [if_pos z, if_pos z]
  · rw [if_neg z, if_neg z, if_neg (fun w => z ⟨w.1, w.2.1⟩)]
theorem op_lives (h : Inv I J) (i n : Int) : OpW m_C_lives m_D_lives [some (vr 0 0), some (vi i), some (vi n), none, none] [some (vr 39 0), some (vi i), some (vi n), none, none, none, none] sc I J := by
  obtain ⟨n1, n2, n3, n4, n5, n6, n7, n8, n9⟩ := inv_num h
  by_cases hb : 0 ≤ i ∧ i < I 39 0 4
  · by_cases hb2 : 0 ≤ n ∧ n ≤ 4
    · obtain ⟨i0, i4⟩ := hb
      obtain ⟨m0, m4⟩ := hb2
      have m1 : ¬ n < 0 := by omega
      obtain ⟨i, rfl⟩ := Int.eq_ofNat_of_zero_le i0
      obtain ⟨N, rfl⟩ := Int.eq_ofNat_of_zero_le m0
      obtain ⟨p1, p2, p3, p4, p5, p6, p7⟩ := inv_pas h i4
      have hL := lf3_in p6
      have hn9 : 0 ≤ I 46 0 0 ∧ I 46 0 0 ≤ 900 := by omega
      have N4 : N ≤ 4 := by omega
      have ix : 0 ≤ (i : Int) ∧ (i : Int) < 6 := by omega
      obtain ⟨L, eL⟩ := Int.eq_ofNat_of_zero_le hL.1
      have L1 : L < 1000 := by omega
      have Lx : 0 ≤ (L : Int) ∧ (L : Int) < 1000 := by omega
      have e22 : I 22 0 i = (L : Int) := by rw [p4, eL]
      refine ⟨1, fun a b => ∃ (T : Nat → Int) (u : Nat), a = up2 I 11 0 T ∧ b = tlC J u 1 ∧ lvQ (I 45 0 i) (lf3 (I 46 0) i) (I 46 0 0) N T ∧ (u : Int) = 1000 - cf T (-9) 1000, fun d Q hQ => ?_, fun a b hab d Q hQ => ?_⟩
      · simp only [b_C_lives_0, b_C_lives_5, b_C_lives_8, b_C_lives_12, b_C_lives_17, b_C_lives_19, s_C_isP h, i0, i4, m1, m4, i10, ap_s, ap_n, and_self, and_true, true_and, if_true, if_false, not_true_eq_false, not_false_eq_true, Int.toNat_natCast]
        refine (s_JA_fill (t := 11) (i := 0) (n := 1000) (fun _ _ => rfl) (by decide)).mpr ?_
        have r22 : flI I 11 0 0 1000 (-9) 22 0 i = (L : Int) := e22
        rw [ap_n, b_C_lives_28, and_iff_right ix, Int.toNat_natCast, r22, b_C_lives_41, and_iff_right Lx, Int.toNat_natCast, b_C_lives_43, show upI (flI I 11 0 0 1000 (-9)) 11 0 L 0 = up2 (flI I 11 0 0 1000 (-9)) 11 0 (upF (flI I 11 0 0 1000 (-9) 11 0) L 0) from rfl, fl_up2]
        have fv : ∀ x, x < 1000 → flI I 11 0 0 1000 (-9) 11 0 x = -9 := fun x hx => if_pos ⟨rfl, rfl, Nat.zero_le _, hx⟩
        generalize hG : flI I 11 0 0 1000 (-9) 11 0 = G at *
        have c0 : cf G (-9) 1000 = ((1000 : Nat) : Int) := cf_all fv
        have cu := cf_up (f := G) (v := -9) (w := 0) (fv L L1) (by decide) (N := 1000) L1
        refine l_C_lv (d := d + 15) (k := I 45 0 i) (L := lf3 (I 46 0) i) (n := I 46 0 0) p1 p2 hL n4 hn9 N4 (fun T x3 g1 g2 => ?_) N 0 (upF G L 0) 1 (Nat.zero_add _) ⟨fun x hx => ⟨fun z => ?_, fun z => ?_⟩, fun x hx z => ?_⟩ (by omega)
        · have cin := cf_in (W := T) (v := -9) 1000
          obtain ⟨u, hu⟩ := Int.eq_ofNat_of_zero_le (show 0 ≤ x3 by omega)
          rw [hu, b_C_lives_78]
          refine (s_C_tell (u := u) (w := 1) (Nat.le_refl 1) (by decide)).mpr ?_
          rw [ap_n, b_C_lives_85]
          exact hQ _ _ ⟨T, u, rfl, rfl, g1, by omega⟩
        · have e : x = L := by
            by_cases y : x = L
            · exact y
            · exact absurd ((if_neg y).trans (fv x hx)) z
          subst e
          exact ⟨0, by decide, eL⟩
        · obtain ⟨q, hq, e⟩ := z
          have e2 : lf3 (I 46 0) i = (x : Int) := e
          have e3 : x = L := by omega
          rw [show upF G L 0 x = 0 from if_pos e3]
          decide
        · by_cases y : x = L
          · rw [show upF G L 0 x = 0 from if_pos y]
            exact Int.le_refl _
          · exact absurd ((if_neg y).trans (fv x hx)) z
      · obtain ⟨T, u, e1, e2, hT, hu⟩ := hab
        subst e1 e2
        simp only [b_D_lives_0, b_D_lives_5, b_D_lives_8, b_D_lives_14, b_D_lives_17, b_D_lives_19, s_D_isOne (I := up2 I 11 0 T) n2 n3, s_D_in, show up2 I 11 0 T 39 = I 39 from rfl, i0, i4, m0, m4, i10, ap_s, ap_n, and_self, and_true, true_and, if_true, if_false, not_true_eq_false, not_false_eq_true, Int.toNat_natCast]
        have key := l_D_lz (d := d + 20) (Q := Q) (sc := sc) (I := up2 I 11 0 T) (J := tlC J u 1) (i := i) (N := N) (fun M hM => by
          rw [b_D_lives_46]
          have k2 := l_D_ll (d := d + 16) (Q := Q) (sc := sc) (I := up2 I 11 0 T) (J := tlC J u 1) (i := i) (N := N) p1 p3 p6 p7 hn9 N4 (fun M' s x3 o5 o6 g1 g2 g3 => by
            have eqv : cf T (-9) 1000 = cf M' 0 1000 := cf_iff (fun x hx => by
              constructor
              · intro z
                by_cases w : M' x = 0
                · exact w
                · exact absurd z ((hT.1 x hx).mpr (g1 x hx w))
              · intro z
                by_cases w : T x = -9
                · exact w
                · obtain ⟨q, hq, e⟩ := (hT.1 x hx).mp w
                  have := g2 q hq
                  rw [show fL (up2 I 11 0 T 45 0 i) (lf3 (up2 I 11 0 T 46 0) i) (up2 I 11 0 T 46 0 0) N q = (x : Int) from e, Int.toNat_natCast] at this
                  exact absurd z this)
            have x3u : x3 = (u : Int) := by rw [g3, hu, eqv]
            rw [x3u, b_D_lives_125]
            refine (s_D_tellsPart (u := u) (w := 1) (Nat.le_refl 1)).mpr ?_
            rw [ap_s, b_D_lives_132]
            refine hQ _ _ ?_
            obtain ⟨h1, h2, h3, h4, h5, a1, a2, a3, a4, a5⟩ := h
            exact ⟨h1, h2, h3, h4, h5, a1, a2, a3, tl_eq.1, tl_eq.2⟩) (N + 1) 0 M (up2 (up2 I 11 0 T) 60 0 M 47 0) 0 none none (Nat.zero_add _) (fun x hx z => absurd (hM x hx) z) (fun m' hm' => by omega) (by rw [cf_all hM]; decide)
          rw [up2_self] at k2
          exact k2) 1000 0 (up2 I 11 0 T 60 0) (Nat.zero_add _) (fun x hx => by omega)
        rw [up2_self] at key
        exact key
    · refine opW_no h (-1) (fun d Q hQ => ?_) (fun d Q hQ => ?_)
      · simp only [b_C_lives_0, b_C_lives_5, b_C_lives_8, b_C_lives_12, b_C_lives_17, s_C_isP h, hb, i10, ap_s, ap_n, and_self, and_true, true_and, if_true, if_false, not_true_eq_false, not_false_eq_true, Int.toNat_natCast]
        (repeat' split) <;> first | exact hQ | (exfalso; omega)
      · simp only [b_D_lives_0, b_D_lives_5, b_D_lives_8, b_D_lives_14, b_D_lives_17, s_D_isOne n2 n3, s_D_in, hb, hb2, i10, ap_s, ap_n, and_self, and_true, true_and, if_true, if_false, not_true_eq_false, not_false_eq_true, Int.toNat_natCast]
        exact hQ
  · refine opW_no h (-1) (fun d Q hQ => ?_) (fun d Q hQ => ?_)
    · simp only [b_C_lives_0, b_C_lives_5, b_C_lives_8, b_C_lives_12, b_C_lives_17, s_C_isP h, hb, i10, ap_s, ap_n, and_self, and_true, true_and, if_true, if_false, not_true_eq_false, not_false_eq_true, Int.toNat_natCast]
      exact hQ
    · simp only [b_D_lives_0, b_D_lives_5, b_D_lives_8, b_D_lives_14, b_D_lives_17, s_D_isOne n2 n3, hb, i10, ap_s, ap_n, and_self, and_true, true_and, if_true, if_false, not_true_eq_false, not_false_eq_true, Int.toNat_natCast]
      exact hQ
end LW
