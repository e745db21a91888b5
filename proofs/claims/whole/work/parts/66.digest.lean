/-! DIGEST -/
def hF (f : Nat → Int) (h : Int) : Nat → Int
  | 0 => h
  | j + 1 => w64 (w64 (31 * hF f h j) + f j)
theorem hF_eq {f g : Nat → Int} {h : Int} : ∀ {n : Nat}, (∀ j, j < n → f j = g j) → hF f h n = hF g h n
  | 0, _ => rfl
  | n + 1, e => by
    unfold hF
    rw [hF_eq (n := n) (fun j hj => e j (by omega)), e n (by omega)]
def pV (kn : Nat → Nat → Int) (h : Int) : Nat → Int
  | 0 => h
  | i + 1 => hF (kn i) (pV kn h i) 7
def rV (sz : Nat → Int) (f : Nat → Nat → Int) (h : Int) : Nat → Int
  | 0 => h
  | r + 1 => hF (f r) (w64 (w64 (31 * rV sz f h r) + sz r)) (sz r).toNat
def knD (I : TI) (i w : Nat) : Int := knV (I 45 0 i) (lf3 (I 46 0) i) (I 46 0 (19 + i)) (I 46 0 0) w
def kvD (I : TI) (k : Nat) : Int := if I 51 0 k = 0 then -1 else I 50 0 (1026 * k)
def d1 (I : TI) (n : Nat) : Int := hF (fun k => ctV I n k) 17 10
def d2 (I : TI) (n : Nat) : Int := pV (knD I) (d1 I n) n
def d3 (I : TI) (n : Nat) : Int := hF (kvD I) (d2 I n) 3
def d4 (I : TI) (n : Nat) : Int := rV (I 40 0) (fun r k => I 41 0 (40 * r + k)) (d3 I n) 6
def d5 (I : TI) (n : Nat) : Int := rV (I 42 0) (fun r k => I 43 0 (60 * r + k)) (d4 I n) 4
section DI
variable {d : Nat} {Q : Option AV → AMem → Prop} {sc : SC} {I J : TI}
theorem l_R_dg {i0 S : Nat} {y0 y : Int} (hl : S ≤ lenP i0) (hs : I 28 i0 1 = S) : ∀ (m j : Nat), j + m = S → (X d m_R_digestInto 15 [some (vr 28 i0), some (vl y0), none, some (vl (hF (I 29 i0) y j)), none, some (vi (j : Int))] [] (MM sc I J) Q ↔ Q (some (vl (hF (I 29 i0) y S))) (MM sc I J))
  | 0, j, e => by
    have e1 : j = S := by omega
    subst e1
    rw [b_R_digestInto_15, hs, if_pos (by omega), b_R_digestInto_45]
  | m + 1, j, e => by
    have hle := lenP_le i0
    rw [b_R_digestInto_15, hs, if_neg (by omega), b_R_digestInto_24, and_iff_right (by omega), Int.toNat_natCast, b_R_digestInto_36, wsuc (by omega)]
    exact l_R_dg hl hs m (j + 1) (by omega)
theorem s_R_dg {i0 : Nat} {y : Int} (h1 : -1 ≤ I 28 i0 1) (h2 : I 28 i0 1 ≤ (lenP i0 : Int)) : X d m_R_digestInto 0 [some (vr 28 i0), some (vl y), none, none, none, none] [] (MM sc I J) Q ↔ Q (some (vl (hF (I 29 i0) (w64 (w64 (31 * y) + I 28 i0 1)) (I 28 i0 1).toNat))) (MM sc I J) := by
  rw [b_R_digestInto_0]
  by_cases c : I 28 i0 1 < 0
  · rw [b_R_digestInto_15, if_pos (by omega), b_R_digestInto_45, show (I 28 i0 1).toNat = 0 by omega]
    exact Iff.rfl
  · obtain ⟨S, hS⟩ := Int.eq_ofNat_of_zero_le (show 0 ≤ I 28 i0 1 by omega)
    have := l_R_dg (d := d) (Q := Q) (sc := sc) (I := I) (J := J) (y0 := y) (y := w64 (w64 (31 * y) + I 28 i0 1)) (i0 := i0) (S := S) (by omega) hS S 0 (by omega)
    rw [show (I 28 i0 1).toNat = S by omega]
    exact this
theorem l_C_d1 (h : Inv I J) {n : Nat} (hs : I 39 0 4 = n) : ∀ (m k : Nat), k + m = 10 → (X (d + 5) m_C_digest 6 [some (vr 0 0), some (vl (hF (fun k => ctV I n k) 17 k)), none, some (vi (k : Int)), none, none, none] [] (MM sc I J) Q ↔ X (d + 5) m_C_digest 33 [some (vr 0 0), some (vl (d1 I n)), none, some (vi 0), none, none, none] [] (MM sc I J) Q)
  | 0, k, e => by
    have e1 : k = 10 := by omega
    subst e1
    rw [b_C_digest_6, if_pos (by omega), b_C_digest_31]
    exact Iff.rfl
  | m + 1, k, e => by
    rw [b_C_digest_6, if_neg (by omega), b_C_digest_12, s_C_count h hs, ap_s, b_C_digest_22, wsuc (by omega)]
    exact l_C_d1 h hs m (k + 1) (by omega)
theorem l_C_d2a (h : Inv I J) {i : Nat} {y : Int} (hi : (i : Int) < I 39 0 4) : ∀ (m w : Nat), w + m = 7 → (X (d + 5) m_C_digest 47 [some (vr 0 0), some (vl (hF (knD I i) y w)), none, some (vi (i : Int)), some (vi (w : Int)), none, none] [] (MM sc I J) Q ↔ X (d + 5) m_C_digest 33 [some (vr 0 0), some (vl (hF (knD I i) y 7)), none, some (vi ((i + 1 : Nat) : Int)), some (vi 7), none, none] [] (MM sc I J) Q)
  | 0, w, e => by
    have e1 : w = 7 := by omega
    subst e1
    have p1 := (inv_pas h hi).1
    rw [b_C_digest_47, if_pos (by omega), b_C_digest_75, wsuc (by omega)]
    exact Iff.rfl
  | m + 1, w, e => by
    obtain ⟨n1, n2, n3, n4, n5, n6, n7, n8, n9⟩ := inv_num h
    obtain ⟨p1, p2, p3, p4, p5, p6, p7⟩ := inv_pas h hi
    have hL := lf3_in p6
    rw [b_C_digest_47, if_neg (by omega), b_C_digest_54, s_C_knownOf p1 (by omega) (by omega) (by omega) (by omega) (by omega), ap_s, b_C_digest_66, wsuc (by omega), p2, p4, p5, n4]
    exact l_C_d2a h hi m (w + 1) (by omega)
theorem l_C_d2 (h : Inv I J) {n : Nat} {y : Int} (hs : I 39 0 4 = n) : ∀ (m i : Nat) (o : Option AV), i + m = n → (X (d + 5) m_C_digest 33 [some (vr 0 0), some (vl (pV (knD I) y i)), none, some (vi (i : Int)), o, none, none] [] (MM sc I J) Q ↔ X (d + 5) m_C_digest 93 [some (vr 0 0), some (vl (pV (knD I) y n)), none, some (vr 4 0), some (vi 3), some (vi 0), none] [] (MM sc I J) Q)
  | 0, i, o, e => by
    have e1 : i = n := by omega
    subst e1
    rw [b_C_digest_33, (inv_num h).1, hs, if_pos (by omega), b_C_digest_81]
  | m + 1, i, o, e => by
    rw [b_C_digest_33, (inv_num h).1, hs, if_neg (by omega), b_C_digest_44]
    refine (l_C_d2a h (by omega) 7 0 (by omega)).trans ?_
    exact l_C_d2 h hs m (i + 1) (some (vi 7)) (by omega)
theorem l_C_d3 (h : Inv I J) {y : Int} : ∀ (m k : Nat) (o : Option AV), k + m = 3 → ∃ o', (∀ (d : Nat) (Q : Option AV → AMem → Prop) (sc : SC), X (d + 5) m_C_digest 93 [some (vr 0 0), some (vl (hF (kvD I) y k)), none, some (vr 4 0), some (vi 3), some (vi (k : Int)), o] [] (MM sc I J) Q ↔ X (d + 5) m_C_digest 149 [some (vr 0 0), some (vl (hF (kvD I) y 3)), none, some (vr 1 0), some (vi 6), some (vi 0), o'] [] (MM sc I J) Q)
  | 0, k, o, e => by
    have e1 : k = 3 := by omega
    subst e1
    refine ⟨o, fun d Q sc => ?_⟩
    rw [b_C_digest_93, if_pos (by omega), b_C_digest_137]
  | m + 1, k, o, e => by
    obtain ⟨o', ih⟩ := l_C_d3 h (y := y) m (k + 1) (some (vr 20 (1 + k))) (by omega)
    refine ⟨o', fun d Q sc => ?_⟩
    rw [← ih, b_C_digest_93, if_neg (by omega), b_C_digest_100, and_iff_right (by omega), Int.toNat_natCast, b_C_digest_104, s_F_isEmpty, ap_s, b_C_digest_116, b_C_digest_119, b_C_digest_123, b_C_digest_128, b_C_digest_128, wsuc (by omega), hF, kvD]
    rcases h.2.2.2.2.1 k (by omega) with ⟨z1, z2⟩ | ⟨z1, z2, z3, z4, z5, z6⟩
    · rw [if_pos z2, if_neg (by decide), if_pos z1]
    · have zz : ¬ I 20 (1 + k) 7 = 0 := by omega
      have zq : ¬ I 51 0 k = 0 := by omega
      rw [if_neg zz, if_pos rfl, if_neg zq, z5]
theorem l_C_d4 (h : Inv I J) {y : Int} : ∀ (m k : Nat) (o : Option AV), k + m = 6 → ∃ o', (∀ (d : Nat) (Q : Option AV → AMem → Prop) (sc : SC), X (d + 5) m_C_digest 149 [some (vr 0 0), some (vl (rV (I 40 0) (fun r k => I 41 0 (40 * r + k)) y k)), none, some (vr 1 0), some (vi 6), some (vi (k : Int)), o] [] (MM sc I J) Q ↔ X (d + 5) m_C_digest 187 [some (vr 0 0), some (vl (rV (I 40 0) (fun r k => I 41 0 (40 * r + k)) y 6)), none, some (vr 2 0), some (vi 4), some (vi 0), o'] [] (MM sc I J) Q)
  | 0, k, o, e => by
    have e1 : k = 6 := by omega
    subst e1
    refine ⟨o, fun d Q sc => ?_⟩
    rw [b_C_digest_149, if_pos (by omega), b_C_digest_175]
  | m + 1, k, o, e => by
    obtain ⟨o', ih⟩ := l_C_d4 h (y := y) m (k + 1) (some (vr 28 k)) (by omega)
    obtain ⟨k1, k2, k3, k4⟩ := h.1 k (by omega)
    refine ⟨o', fun d Q sc => ?_⟩
    rw [← ih, b_C_digest_149, if_neg (by omega), b_C_digest_156, and_iff_right (by omega), Int.toNat_natCast, b_C_digest_160, s_R_dg k2 (by unfold lenP; split <;> omega), ap_s, b_C_digest_168, wsuc (by omega), rV, k1, hF_eq (f := I 29 k) (g := fun q => I 41 0 (40 * k + q)) (fun j hj => k4 j (by omega))]
theorem l_C_d5 (h : Inv I J) {y : Int} : ∀ (m k : Nat) (o : Option AV), k + m = 4 → (X (d + 5) m_C_digest 187 [some (vr 0 0), some (vl (rV (I 42 0) (fun r k => I 43 0 (60 * r + k)) y k)), none, some (vr 2 0), some (vi 4), some (vi (k : Int)), o] [] (MM sc I J) Q ↔ Q (some (vl (rV (I 42 0) (fun r k => I 43 0 (60 * r + k)) y 4))) (MM sc I J))
  | 0, k, o, e => by
    have e1 : k = 4 := by omega
    subst e1
    rw [b_C_digest_187, if_pos (by omega), b_C_digest_213]
  | m + 1, k, o, e => by
    have ih := l_C_d5 h (y := y) m (k + 1) (some (vr 28 (6 + k))) (by omega)
    obtain ⟨k1, k2, k3, k4⟩ := h.2.1 k (by omega)
    rw [← ih, b_C_digest_187, if_neg (by omega), b_C_digest_194, and_iff_right (by omega), Int.toNat_natCast, b_C_digest_198, s_R_dg k2 (by unfold lenP; split <;> omega), ap_s, b_C_digest_206, wsuc (by omega), rV, k1, hF_eq (f := I 29 (6 + k)) (g := fun q => I 43 0 (60 * k + q)) (fun j hj => k4 j (by omega))]
end DI
