/-! RUN, DECLARED -/
def asV (L a b c : Int) : Int := if (a = -1 ∨ a = dg L 0) ∧ (b = -1 ∨ b = dg L 1) ∧ (c = -1 ∨ c = dg L 2) then 1 else 0
def dcF (k L n a b e : Int) : Nat → Int
  | 0 => 0
  | c + 1 => if asV (lt k L c n) a b e = 0 then dcF k L n a b e c else i_or (dcF k L n a b e c) (i_shl 1 c)
theorem dcF_i32 (k L n a b e : Int) : ∀ c : Nat, i32 (dcF k L n a b e c)
  | 0 => i32_0
  | c + 1 => by
    unfold dcF
    split
    · exact dcF_i32 k L n a b e c
    · exact i32_of _
section RN
variable {d : Nat} {Q : Option AV → AMem → Prop} {sc : SC} {I J : TI}
theorem opW_no (h : Inv I J) (v : Int) {M1 M2 : Nat} {l1 l2 : ALs} (h1 : ∀ d Q, Q (some (vi v)) (MM sc I J) → X (d + 20) M1 0 l1 [] (MM sc I J) Q) (h2 : ∀ d Q, Q (some (vi v)) (MM sc I J) → X (d + 20) M2 0 l2 [] (MM sc I J) Q) : OpW M1 M2 l1 l2 sc I J := opW_I (op_no h v h1 h2)
theorem opW_fd (h : Inv I J) {f : Nat} (hf : f < 6) {M1 M2 : Nat} {l1 l2 : ALs} (h1 : ∀ d Q, Q (some (vi (-3))) (MM sc (fdC I f) J) → X (d + 20) M1 0 l1 [] (MM sc I J) Q) (h2 : ∀ d Q, Q (some (vi (-3))) (MM sc (fdD (fdC I f) f) J) → X (d + 20) M2 0 l2 [] (MM sc (fdC I f) J) Q) : OpW M1 M2 l1 l2 sc I J := opW_I (op_fd h hf h1 h2)
theorem l_C_run {i r S : Nat} {x4 : Int} (hi : i < 6) (hl : S ≤ lenP r) (hs : I 28 r 1 = S) (hL : 0 ≤ I 22 0 i ∧ I 22 0 i ≤ 999) (hn : 0 ≤ I 20 0 8 ∧ I 20 0 8 ≤ 1000) (hf : ∀ j, j < S → 0 ≤ I 29 r j ∧ I 29 r j ≤ 6) : ∀ (m j : Nat) (o : Option AV), j + m = S → (X (d + 3) m_C_run 62 [some (vr 0 0), some (vi (i : Int)), some (vi (r : Int)), some (vr 28 r), some (vi x4), some (vi (rL (I 21 0 i) (I 22 0 i) (I 20 0 8) (I 29 r) j)), some (vi (rC (I 21 0 i) (I 22 0 i) (I 20 0 8) (I 29 r) j)), some (vi (j : Int)), o] [] (MM sc I J) Q ↔ Q (some (vi (rC (I 21 0 i) (I 22 0 i) (I 20 0 8) (I 29 r) S))) (MM sc (upI I 0 0 6 (rL (I 21 0 i) (I 22 0 i) (I 20 0 8) (I 29 r) S)) J))
  | 0, j, o, e => by
    have e1 : j = S := by omega
    subst e1
    rw [b_C_run_62, hs, if_pos (by omega), b_C_run_123, b_C_run_129]
  | m + 1, j, o, e => by
    have hle := lenP_le r
    have hj := rL_in (k := I 21 0 i) (n := I 20 0 8) hL hf j (by omega)
    have hc := rC_in (k := I 21 0 i) (L := I 22 0 i) (n := I 20 0 8) (f := I 29 r) j
    have hfj := hf j (by omega)
    rw [b_C_run_62, hs, if_neg (by omega), b_C_run_71, and_iff_right (by omega), Int.toNat_natCast, b_C_run_80, and_iff_right (by omega), Int.toNat_natCast, b_C_run_89, w32_eq (x := I 20 0 8 + (j : Int)) (by omega) (by omega), s_K_landing hfj.1 hfj.2 hj.1 hj.2 (by omega), ap_s, b_C_run_102, b_C_run_110, b_C_run_117, b_C_run_117, wsuc (by omega), w32_eq (by omega) (by omega)]
    by_cases z : ld (I 21 0 i) (rL (I 21 0 i) (I 22 0 i) (I 20 0 8) (I 29 r) j) (I 29 r j) (I 20 0 8 + j) = -1
    · rw [if_pos z]
      have := l_C_run (x4 := x4) hi hl hs hL hn hf m (j + 1) (some (vi (ld (I 21 0 i) (rL (I 21 0 i) (I 22 0 i) (I 20 0 8) (I 29 r) j) (I 29 r j) (I 20 0 8 + j)))) (by omega)
      rw [rL, rC, lt, if_pos z, if_pos z, Int.add_zero] at this
      exact this
    · rw [if_neg z]
      have := l_C_run (x4 := x4) hi hl hs hL hn hf m (j + 1) (some (vi (ld (I 21 0 i) (rL (I 21 0 i) (I 22 0 i) (I 20 0 8) (I 29 r) j) (I 29 r j) (I 20 0 8 + j)))) (by omega)
      rw [rL, rC, lt, if_neg z, if_neg z] at this
      exact this
theorem l_D_run {i r S : Nat} {x3 : Int} {f s : Nat → Int} (hi : i < 6) (hr : r < 6) (hS : S ≤ 40) (hs : I 40 0 r = S) (hk : 0 ≤ I 45 0 i) (hk2 : I 45 0 i ≤ 5) (hd : dg3 s i) (hb : s (19 + i) = 0 ∨ s (19 + i) = 1) (hn : 0 ≤ s 0 ∧ s 0 ≤ 900) (hff : ∀ j, j < S → I 41 0 (40 * r + j) = f j) (hf : ∀ j, j < S → 0 ≤ f j ∧ f j ≤ 6) : ∀ (m j : Nat), j + m = S → (X (d + 3) m_D_run 49 [some (vr 39 0), some (vi (i : Int)), some (vi (r : Int)), some (vi x3), some (vi (rC (I 45 0 i) (lf3 s i) (s 0) f j)), some (vi (j : Int))] [] (MM sc (up2 I 47 0 (cS (I 45 0 i) i f s j)) J) Q ↔ Q (some (vi (rC (I 45 0 i) (lf3 s i) (s 0) f S))) (MM sc (upI (up2 I 47 0 (cS (I 45 0 i) i f s S)) 39 0 12 (rL (I 45 0 i) (lf3 s i) (s 0) f S)) J))
  | 0, j, e => by
    have e1 : j = S := by omega
    subst e1
    have ok := cS_ok (k := I 45 0 i) hi hd hb hf j (Nat.le_refl _)
    rw [b_D_run_49, and_iff_right (by omega), Int.toNat_natCast, show up2 I 47 0 (cS (I 45 0 i) i f s j) 40 = I 40 from rfl, hs, b_D_run_57, if_pos (by omega), b_D_run_100, s_D_lifeOf (t := 47) (fun _ _ => rfl) hi (by rw [up2_same]; exact ok.2.1), up2_same, ok.1, ap_s, b_D_run_109, s_D_tells, ap_s, b_D_run_114]
  | m + 1, j, e => by
    have e1 : w32 (w32 (40 * (r : Int)) + (j : Int)) = ((40 * r + j : Nat) : Int) := by rw [w32_eq (x := 40 * (r : Int)) (by omega) (by omega), w32_eq (by omega) (by omega)]; omega
    have ok := cS_ok (k := I 45 0 i) hi hd hb hf j (by omega)
    have okb := cS_b (k := I 45 0 i) hi hd hb hf (j := j) (by omega)
    have hc := rC_in (k := I 45 0 i) (L := lf3 s i) (n := s 0) (f := f) j
    have hfj := hf j (by omega)
    rw [b_D_run_49, and_iff_right (by omega), Int.toNat_natCast, show up2 I 47 0 (cS (I 45 0 i) i f s j) 40 = I 40 from rfl, hs, b_D_run_57, if_neg (by omega), b_D_run_60, e1, and_iff_right (by omega), Int.toNat_natCast, show up2 I 47 0 (cS (I 45 0 i) i f s j) 41 = I 41 from rfl, hff j (by omega), b_D_run_80, s_D_crN hi hk hk2 hfj.1 hfj.2 ok.2.1 (by omega) (by omega) okb, ap_s, ok.1, ok.2.2.1, b_D_run_83, b_D_run_86, b_D_run_90, b_D_run_91, b_D_run_91, wsuc (by omega), w32_eq (x := rC (I 45 0 i) (lf3 s i) (s 0) f j + 1) (by omega) (by omega), w32_eq (x := rC (I 45 0 i) (lf3 s i) (s 0) f j + 0) (by omega) (by omega)]
    rw [← l_D_run hi hr hS hs hk hk2 hd hb hn hff hf m (j + 1) (by omega)]
    rw [rC, cS]
    by_cases z : ld (I 45 0 i) (rL (I 45 0 i) (lf3 s i) (s 0) f j) (f j) (s 0 + j) = -1
    · rw [if_pos z, if_pos rfl]
    · rw [if_neg z, if_neg (by decide)]
theorem op_run (h : Inv I J) (i r : Int) : OpW m_C_run m_D_run [some (vr 0 0), some (vi i), some (vi r), none, none, none, none, none, none] [some (vr 39 0), some (vi i), some (vi r), none, none, none] sc I J := by
  obtain ⟨n1, n2, n3, n4, n5, n6, n7, n8, n9⟩ := inv_num h
  by_cases hb : 0 ≤ i ∧ i < I 39 0 4
  · by_cases hb2 : 0 ≤ r ∧ r ≤ 5
    · obtain ⟨i0, i4⟩ := hb
      obtain ⟨r0, r5⟩ := hb2
      obtain ⟨i, rfl⟩ := Int.eq_ofNat_of_zero_le i0
      obtain ⟨r, rfl⟩ := Int.eq_ofNat_of_zero_le r0
      obtain ⟨p1, p2, p3, p4, p5, p6, p7⟩ := inv_pas h i4
      have r6 : (r : Int) < 6 := by omega
      have i6 : (i : Int) < 6 := by omega
      have hL := lf3_in p6
      rcases rowchk h (r := r) (by omega) 0 20 0 6 with ⟨f, f1, f6, hC, hD⟩ | ⟨S, s1, s2, s3, s4, s5, s6, s7, hC, hD⟩
      · have f0 : ¬ (f : Int) = 0 := by omega
        refine opW_fd h f6 (fun d Q hQ => ?_) (fun d Q hQ => ?_)
        · simp only [b_C_run_0, b_C_run_5, b_C_run_8, b_C_run_12, b_C_run_15, b_C_run_17, b_C_run_23, b_C_run_35, b_C_run_42, s_C_isP h, s_C_isRow, hC, i0, i4, r0, r5, r6, i10, ap_s, ap_n, and_self, and_true, true_and, if_true, if_false, not_true_eq_false, not_false_eq_true, Int.toNat_natCast]
          exact hQ
        · simp only [b_D_run_0, b_D_run_5, b_D_run_8, b_D_run_12, b_D_run_15, b_D_run_17, b_D_run_28, b_D_run_33, b_D_run_38, s_D_isOne (I := fdC I f) n2 n3, s_D_isRow, hD _ _ sc (fdC I f) J rfl rfl, s_D_found f6, fC39, f0, i0, i4, r0, r5, r6, i10, ap_s, ap_n, and_self, and_true, true_and, if_true, if_false, not_true_eq_false, not_false_eq_true, Int.toNat_natCast]
          exact hQ
      · have eqs := rL_eq (k := I 45 0 i) (L := lf3 (I 46 0) i) (n := I 46 0 0) (m := S) (f := fun q => I 41 0 (40 * r + q)) (g := I 29 r) (fun j hj => (s7 j hj).symm)
        generalize hv : rL (I 45 0 i) (lf3 (I 46 0) i) (I 46 0 0) (I 29 r) S = v at *
        refine ⟨(rC (I 45 0 i) (lf3 (I 46 0) i) (I 46 0 0) (I 29 r) S), fun a b => a = upI I 0 0 6 v ∧ b = J, fun d Q hQ => ?_, fun a b hab d Q hQ => ?_⟩
        · have lc := l_C_run (d := d + 17) (Q := Q) (sc := sc) (I := I) (J := J) (i := i) (r := r) (S := S) (x4 := 0) p1 (by unfold lenP; split <;> omega) s1 (by omega) (by omega) s6 S 0 none (by omega)
          rw [p2, p4, n4, hv] at lc
          simp only [b_C_run_0, b_C_run_5, b_C_run_8, b_C_run_12, b_C_run_15, b_C_run_17, b_C_run_23, b_C_run_35, b_C_run_42, b_C_run_45, b_C_run_54, s_C_isP h, s_C_isRow, hC, i0, i4, i6, r0, r5, r6, p4, i10, ap_s, ap_n, and_self, and_true, true_and, if_true, if_false, not_true_eq_false, not_false_eq_true, Int.toNat_natCast]
          exact lc.mpr (hQ _ _ ⟨rfl, rfl⟩)
        · obtain ⟨e1, e2⟩ := hab
          subst e1 e2
          have nw := nw_ok (I := upI I 0 0 6 v) (s := upI I 0 0 6 v 47 0) p1 p6
          have ld' := l_D_run (d := d + 17) (Q := Q) (sc := sc) (I := upI I 0 0 6 v) (J := b) (i := i) (r := r) (S := S) (x3 := 0) (f := I 29 r) (s := nwS (upI I 0 0 6 v) (upI I 0 0 6 v 47 0)) p1 (by omega) s3 s2 p3.1 p3.2 nw.2.1 (by rw [nw.2.2.2]; exact p7) (by rw [nw.2.2.1]; exact ⟨n5, by show I 46 0 0 ≤ 900; omega⟩) (fun j hj => (s7 j hj).symm) s6 S 0 (by omega)
          simp only [b_D_run_0, b_D_run_5, b_D_run_8, b_D_run_12, b_D_run_15, b_D_run_17, b_D_run_28, b_D_run_33, b_D_run_38, b_D_run_39, b_D_run_46, s_D_isOne (I := upI I 0 0 6 v) n2 n3, s_D_isRow, hD _ _ sc (upI I 0 0 6 v) b rfl rfl, show upI I 0 0 6 v 39 = I 39 from rfl, i0, i4, i6, r0, r5, r6, i10, ap_s, ap_n, and_self, and_true, true_and, if_true, if_false, not_true_eq_false, not_false_eq_true, Int.toNat_natCast]
          have as := s_D_asItIs (d := d + 18) (sc := sc) (I := upI I 0 0 6 v) (J := b) (s := upI I 0 0 6 v 47 0) (Q := fun r' mm => X (d + 19 + 1) m_D_run 46 [some (vr 39 0), some (vi (i : Int)), some (vi (r : Int)), some (vi 0), some (vi 0), none] (r'.toList ++ []) mm Q)
          rw [up2_self] at as
          refine as.mpr ?_
          rw [ap_n, b_D_run_46]
          refine ld'.mpr ?_
          rw [nw.1, nw.2.2.1]
          show Q (some (vi (rC (I 45 0 i) (lf3 (I 46 0) i) (I 46 0 0) (I 29 r) S))) (MM sc (upI (up2 (upI I 0 0 6 v) 47 0 (cS (I 45 0 i) i (I 29 r) (nwS (upI I 0 0 6 v) (upI I 0 0 6 v 47 0)) S)) 39 0 12 (rL (I 45 0 i) (lf3 (I 46 0) i) (I 46 0 0) (I 29 r) S)) b)
          rw [hv]
          refine hQ _ _ ?_
          obtain ⟨h1, h2, h3, h4, h5, a1, a2, a3, a4, a5⟩ := h
          exact ⟨h1, h2, h3, h4, h5, a1, rfl, a3, a4, a5⟩
    · refine opW_no h (-1) (fun d Q hQ => ?_) (fun d Q hQ => ?_)
      · simp only [b_C_run_0, b_C_run_5, b_C_run_8, b_C_run_12, b_C_run_15, s_C_isP h, s_C_isRow, hb, hb2, i10, ap_s, ap_n, and_self, and_true, true_and, if_true, if_false, not_true_eq_false, not_false_eq_true, Int.toNat_natCast]
        exact hQ
      · simp only [b_D_run_0, b_D_run_5, b_D_run_8, b_D_run_12, b_D_run_15, s_D_isOne n2 n3, s_D_isRow, hb, hb2, i10, ap_s, ap_n, and_self, and_true, true_and, if_true, if_false, not_true_eq_false, not_false_eq_true, Int.toNat_natCast]
        exact hQ
  · refine opW_no h (-1) (fun d Q hQ => ?_) (fun d Q hQ => ?_)
    · simp only [b_C_run_0, b_C_run_5, b_C_run_8, b_C_run_12, b_C_run_15, s_C_isP h, s_C_isRow, hb, i10, ap_s, ap_n, and_self, and_true, true_and, if_true, if_false, not_true_eq_false, not_false_eq_true, Int.toNat_natCast]
      exact hQ
    · simp only [b_D_run_0, b_D_run_5, b_D_run_8, b_D_run_12, b_D_run_15, s_D_isOne n2 n3, s_D_isRow, hb, i10, ap_s, ap_n, and_self, and_true, true_and, if_true, if_false, not_true_eq_false, not_false_eq_true, Int.toNat_natCast]
      exact hQ
end RN
