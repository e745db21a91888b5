/-! DIGEST, the reference's side -/
section DJ
variable {d : Nat} {Q : Option AV → AMem → Prop} {sc : SC} {I J : TI}
theorem l_D_d1 {n : Nat} (hn : n ≤ 6) (hs : I 39 0 4 = n) (hd : ∀ j, j < n → dg3 (I 46 0) j) : ∀ (m k : Nat), k + m = 10 → (X (d + 5) m_D_digest 6 [some (vr 39 0), some (vl (hF (fun k => ctV I n k) 17 k)), none, some (vi (k : Int)), none] [] (MM sc I J) Q ↔ X (d + 5) m_D_digest 33 [some (vr 39 0), some (vl (d1 I n)), none, some (vi 0), none] [] (MM sc I J) Q)
  | 0, k, e => by
    have e1 : k = 10 := by omega
    subst e1
    rw [b_D_digest_6, if_pos (by omega), b_D_digest_31]
    exact Iff.rfl
  | m + 1, k, e => by
    rw [b_D_digest_6, if_neg (by omega), b_D_digest_12, s_D_count hn hs hd, ap_s, b_D_digest_22, wsuc (by omega)]
    exact l_D_d1 hn hs hd m (k + 1) (by omega)
theorem l_D_d2a {i : Nat} {y : Int} (hi : i < 6) (hk : 0 ≤ I 45 0 i) (hk2 : I 45 0 i ≤ 5) (hd : dg3 (I 46 0) i) (hn : 0 ≤ I 46 0 0) : ∀ (m w : Nat), w + m = 7 → (X (d + 5) m_D_digest 44 [some (vr 39 0), some (vl (hF (knD I i) y w)), none, some (vi (i : Int)), some (vi (w : Int))] [] (MM sc I J) Q ↔ X (d + 5) m_D_digest 33 [some (vr 39 0), some (vl (hF (knD I i) y 7)), none, some (vi ((i + 1 : Nat) : Int)), some (vi 7)] [] (MM sc I J) Q)
  | 0, w, e => by
    have e1 : w = 7 := by omega
    subst e1
    rw [b_D_digest_44, if_pos (by omega), b_D_digest_72, wsuc (by omega)]
    exact Iff.rfl
  | m + 1, w, e => by
    rw [b_D_digest_44, if_neg (by omega), b_D_digest_51, s_D_passengerOf hi hk hk2 hd hn (by omega) (by omega), ap_s, b_D_digest_63, wsuc (by omega)]
    exact l_D_d2a hi hk hk2 hd hn m (w + 1) (by omega)
theorem l_D_d2 (h : Inv I J) {n : Nat} {y : Int} (hs : I 39 0 4 = n) : ∀ (m i : Nat) (o : Option AV), i + m = n → ∃ o', ∀ (d : Nat) (Q : Option AV → AMem → Prop) (sc : SC), (X (d + 5) m_D_digest 33 [some (vr 39 0), some (vl (pV (knD I) y i)), none, some (vi (i : Int)), o] [] (MM sc I J) Q ↔ X (d + 5) m_D_digest 80 [some (vr 39 0), some (vl (pV (knD I) y n)), none, some (vi 0), o'] [] (MM sc I J) Q)
  | 0, i, o, e => by
    have e1 : i = n := by omega
    subst e1
    refine ⟨o, fun d Q sc => ?_⟩
    rw [b_D_digest_33, hs, if_pos (by omega), b_D_digest_78]
  | m + 1, i, o, e => by
    obtain ⟨o', ih⟩ := l_D_d2 h hs (y := y) m (i + 1) (some (vi 7)) (by omega)
    obtain ⟨p1, p2, p3, p4, p5, p6, p7⟩ := inv_pas h (i := i) (by omega)
    have n5 := (inv_num h).2.2.2.2.1
    refine ⟨o', fun d Q sc => ?_⟩
    rw [b_D_digest_33, hs, if_neg (by omega), b_D_digest_41]
    exact (l_D_d2a p1 p3.1 p3.2 p6 n5 7 0 (by omega)).trans (ih d Q sc)
theorem l_D_d3 {y : Int} : ∀ (m k : Nat) (o : Option AV), k + m = 3 → (X (d + 5) m_D_digest 80 [some (vr 39 0), some (vl (hF (kvD I) y k)), none, some (vi (k : Int)), o] [] (MM sc I J) Q ↔ X (d + 5) m_D_digest 124 [some (vr 39 0), some (vl (hF (kvD I) y 3)), none, some (vi 0), o] [] (MM sc I J) Q)
  | 0, k, o, e => by
    have e1 : k = 3 := by omega
    subst e1
    rw [b_D_digest_80, if_pos (by omega), b_D_digest_122]
  | m + 1, k, o, e => by
    have c1 : 0 ≤ ((1026 * k : Nat) : Int) ∧ ((1026 * k : Nat) : Int) < 3078 := by omega
    have c2 : 0 ≤ (k : Int) ∧ (k : Int) < 3 := by omega
    have c3 : ¬ 3 ≤ (k : Int) := by omega
    have e1 : w32 (1026 * (k : Int)) = ((1026 * k : Nat) : Int) := by rw [w32_eq (by omega) (by omega)]; omega
    rw [← l_D_d3 m (k + 1) o (by omega), b_D_digest_80, if_neg c3, b_D_digest_85, and_iff_right c2, Int.toNat_natCast, b_D_digest_96, b_D_digest_99, e1, and_iff_right c1, Int.toNat_natCast, b_D_digest_109, b_D_digest_112, b_D_digest_113, b_D_digest_113, wsuc (by omega), hF, kvD]
    by_cases z : I 51 0 k = 0
    · rw [if_pos z, if_pos z]
    · rw [if_neg z, if_neg z]
theorem l_D_d4a {r S : Nat} {y : Int} (hr : r < 6) (hS : S ≤ 40) (hs : I 40 0 r = S) : ∀ (m q : Nat), q + m = S → (X d m_D_digest 147 [some (vr 39 0), some (vl (hF (fun k => I 41 0 (40 * r + k)) y q)), none, some (vi (r : Int)), some (vi (q : Int))] [] (MM sc I J) Q ↔ X d m_D_digest 124 [some (vr 39 0), some (vl (hF (fun k => I 41 0 (40 * r + k)) y S)), none, some (vi ((r + 1 : Nat) : Int)), some (vi (S : Int))] [] (MM sc I J) Q)
  | 0, q, e => by
    have e1 : q = S := by omega
    subst e1
    rw [b_D_digest_147, and_iff_right (by omega), Int.toNat_natCast, hs, b_D_digest_155, if_pos (by omega), b_D_digest_184, wsuc (by omega)]
  | m + 1, q, e => by
    have c1 : 0 ≤ ((40 * r + q : Nat) : Int) ∧ ((40 * r + q : Nat) : Int) < 240 := by omega
    have c2 : 0 ≤ (r : Int) ∧ (r : Int) < 6 := by omega
    have c3 : ¬ (S : Int) ≤ q := by omega
    have e1 : w32 (w32 (40 * (r : Int)) + (q : Int)) = ((40 * r + q : Nat) : Int) := by rw [w32_eq (x := 40 * (r : Int)) (by omega) (by omega), w32_eq (by omega) (by omega)]; omega
    rw [b_D_digest_147, and_iff_right c2, Int.toNat_natCast, hs, b_D_digest_155, if_neg c3, b_D_digest_158, e1, and_iff_right c1, Int.toNat_natCast, b_D_digest_175, wsuc (by omega)]
    exact l_D_d4a hr hS hs m (q + 1) (by omega)
theorem l_D_d4 (h : Inv I J) {y : Int} : ∀ (m r : Nat) (o : Option AV), r + m = 6 → ∃ o', ∀ (d : Nat) (Q : Option AV → AMem → Prop) (sc : SC), (X (d + 5) m_D_digest 124 [some (vr 39 0), some (vl (rV (I 40 0) (fun r k => I 41 0 (40 * r + k)) y r)), none, some (vi (r : Int)), o] [] (MM sc I J) Q ↔ X (d + 5) m_D_digest 192 [some (vr 39 0), some (vl (rV (I 40 0) (fun r k => I 41 0 (40 * r + k)) y 6)), none, some (vi 0), o'] [] (MM sc I J) Q)
  | 0, r, o, e => by
    have e1 : r = 6 := by omega
    subst e1
    refine ⟨o, fun d Q sc => ?_⟩
    rw [b_D_digest_124, if_pos (by omega), b_D_digest_190]
  | m + 1, r, o, e => by
    obtain ⟨k1, k2, k3, k4⟩ := h.1 r (by omega)
    by_cases c : I 40 0 r < 0
    · obtain ⟨o', ih⟩ := l_D_d4 h (y := y) m (r + 1) (some (vi 0)) (by omega)
      refine ⟨o', fun d Q sc => ?_⟩
      rw [← ih d Q sc, b_D_digest_124, if_neg (by omega), b_D_digest_130, and_iff_right (by omega), Int.toNat_natCast, b_D_digest_141, b_D_digest_147, and_iff_right (by omega), Int.toNat_natCast, b_D_digest_155, if_pos (by omega), b_D_digest_184, wsuc (by omega), rV, show (I 40 0 r).toNat = 0 by omega]
      exact Iff.rfl
    · obtain ⟨S, hS⟩ := Int.eq_ofNat_of_zero_le (show 0 ≤ I 40 0 r by omega)
      obtain ⟨o', ih⟩ := l_D_d4 h (y := y) m (r + 1) (some (vi (S : Int))) (by omega)
      refine ⟨o', fun d Q sc => ?_⟩
      rw [← ih d Q sc, b_D_digest_124, if_neg (by omega), b_D_digest_130, and_iff_right (by omega), Int.toNat_natCast, b_D_digest_141]
      refine (l_D_d4a (S := S) (by omega) (by omega) hS S 0 (by omega)).trans ?_
      rw [rV, show (I 40 0 r).toNat = S by omega]
      exact Iff.rfl
theorem l_D_d5a {r S : Nat} {y : Int} (hr : r < 4) (hS : S ≤ 60) (hs : I 42 0 r = S) : ∀ (m q : Nat), q + m = S → (X d m_D_digest 214 [some (vr 39 0), some (vl (hF (fun k => I 43 0 (60 * r + k)) y q)), none, some (vi (r : Int)), some (vi (q : Int))] [] (MM sc I J) Q ↔ X d m_D_digest 192 [some (vr 39 0), some (vl (hF (fun k => I 43 0 (60 * r + k)) y S)), none, some (vi ((r + 1 : Nat) : Int)), some (vi (S : Int))] [] (MM sc I J) Q)
  | 0, q, e => by
    have e1 : q = S := by omega
    subst e1
    rw [b_D_digest_214, and_iff_right (by omega), Int.toNat_natCast, hs, b_D_digest_222, if_pos (by omega), b_D_digest_251, wsuc (by omega)]
  | m + 1, q, e => by
    have c1 : 0 ≤ ((60 * r + q : Nat) : Int) ∧ ((60 * r + q : Nat) : Int) < 240 := by omega
    have c2 : 0 ≤ (r : Int) ∧ (r : Int) < 4 := by omega
    have c3 : ¬ (S : Int) ≤ q := by omega
    have e1 : w32 (w32 (60 * (r : Int)) + (q : Int)) = ((60 * r + q : Nat) : Int) := by rw [w32_eq (x := 60 * (r : Int)) (by omega) (by omega), w32_eq (by omega) (by omega)]; omega
    rw [b_D_digest_214, and_iff_right c2, Int.toNat_natCast, hs, b_D_digest_222, if_neg c3, b_D_digest_225, e1, and_iff_right c1, Int.toNat_natCast, b_D_digest_242, wsuc (by omega)]
    exact l_D_d5a hr hS hs m (q + 1) (by omega)
theorem l_D_d5 (h : Inv I J) {y : Int} : ∀ (m r : Nat) (o : Option AV), r + m = 4 → (X (d + 5) m_D_digest 192 [some (vr 39 0), some (vl (rV (I 42 0) (fun r k => I 43 0 (60 * r + k)) y r)), none, some (vi (r : Int)), o] [] (MM sc I J) Q ↔ Q (some (vl (rV (I 42 0) (fun r k => I 43 0 (60 * r + k)) y 4))) (MM sc I J))
  | 0, r, o, e => by
    have e1 : r = 4 := by omega
    subst e1
    rw [b_D_digest_192, if_pos (by omega), b_D_digest_257]
  | m + 1, r, o, e => by
    obtain ⟨k1, k2, k3, k4⟩ := h.2.1 r (by omega)
    by_cases c : I 42 0 r < 0
    · have ih := l_D_d5 h (y := y) m (r + 1) (some (vi 0)) (by omega)
      rw [← ih, b_D_digest_192, if_neg (by omega), b_D_digest_197, and_iff_right (by omega), Int.toNat_natCast, b_D_digest_208, b_D_digest_214, and_iff_right (by omega), Int.toNat_natCast, b_D_digest_222, if_pos (by omega), b_D_digest_251, wsuc (by omega), rV, show (I 42 0 r).toNat = 0 by omega]
      exact Iff.rfl
    · obtain ⟨S, hS⟩ := Int.eq_ofNat_of_zero_le (show 0 ≤ I 42 0 r by omega)
      have ih := l_D_d5 h (y := y) m (r + 1) (some (vi (S : Int))) (by omega)
      rw [← ih, b_D_digest_192, if_neg (by omega), b_D_digest_197, and_iff_right (by omega), Int.toNat_natCast, b_D_digest_208]
      refine (l_D_d5a (S := S) (by omega) (by omega) hS S 0 (by omega)).trans ?_
      rw [rV, show (I 42 0 r).toNat = S by omega]
      exact Iff.rfl
theorem op_digest (h : Inv I J) : OpL m_C_digest m_D_digest [some (vr 0 0), none, none, none, none, none, none] [some (vr 39 0), none, none, none, none] sc I J := by
  obtain ⟨n1, n2, n3, n4, n5, n6, n7, n8, n9⟩ := inv_num h
  obtain ⟨n, hn⟩ := Int.eq_ofNat_of_zero_le n2
  refine ⟨d5 I n, I, J, I, J, fun d Q hQ => ?_, fun d Q hQ => ?_, h⟩
  · obtain ⟨o1, c3⟩ := l_C_d3 h (y := d2 I n) 3 0 none (by omega)
    obtain ⟨o2, c4⟩ := l_C_d4 h (y := d3 I n) 6 0 o1 (by omega)
    rw [b_C_digest_0]
    refine (l_C_d1 (d := d + 15) h hn 10 0 (by omega)).mpr ((l_C_d2 (d := d + 15) h hn n 0 none (by omega)).mpr ((c3 (d + 15) Q sc).mpr ((c4 (d + 15) Q sc).mpr ((l_C_d5 (d := d + 15) h 4 0 o2 (by omega)).mpr ?_))))
    exact hQ
  · obtain ⟨o1, c2⟩ := l_D_d2 h hn (y := d1 I n) n 0 none (by omega)
    obtain ⟨o2, c4⟩ := l_D_d4 h (y := d3 I n) 6 0 o1 (by omega)
    rw [b_D_digest_0]
    refine (l_D_d1 (d := d + 15) (by omega) hn (fun j hj => (inv_pas h (i := j) (by omega)).2.2.2.2.2.1) 10 0 (by omega)).mpr ((c2 (d + 15) Q sc).mpr ((l_D_d3 (d := d + 15) 3 0 o1 (by omega)).mpr ((c4 (d + 15) Q sc).mpr ((l_D_d5 (d := d + 15) h 4 0 o2 (by omega)).mpr ?_))))
    exact hQ
end DJ
