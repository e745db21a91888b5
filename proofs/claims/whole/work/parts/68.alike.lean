/-! ALIKE -/
/-- are both alike by a code of two declarations -/
def akW (ki kj Li Lj n : Int) (q : Nat) : Int := if lt ki Li ((q / 7 : Nat) : Int) n = lt kj Lj ((q % 7 : Nat) : Int) (n + 1) then 1 else 0
def en (x : Int) : Int := if x = -9 then -9 else 10 * (x / 7) + x % 7
theorem en_n (q : Nat) : en (q : Int) = 10 * ((q / 7 : Nat) : Int) + ((q % 7 : Nat) : Int) := by
  unfold en
  rw [if_neg (by omega)]
  omega
theorem fi_in {W : Nat → Int} {v : Int} : ∀ j : Nat, fi W v j = -9 ∨ (0 ≤ fi W v j ∧ fi W v j < j)
  | 0 => Or.inl rfl
  | j + 1 => by
    have := fi_in (W := W) (v := v) j
    unfold fi
    (repeat' split) <;> omega
section AL
variable {d : Nat} {Q : Option AV → AMem → Prop} {sc : SC} {I J : TI}
theorem st_C_al {i j c e : Nat} {x3 x4 : Int} (hi : i < 6) (hj : j < 6) (hc : c < 7) (he : e < 7) (hLj : 0 ≤ I 22 0 j ∧ I 22 0 j ≤ 999) (hn : 0 ≤ I 20 0 8 ∧ I 20 0 8 ≤ 1000) (h4 : 0 ≤ x4 ∧ x4 ≤ 1000) : X (d + 4) m_C_alike 74 [some (vr 0 0), some (vi (i : Int)), some (vi (j : Int)), some (vi x3), some (vi x4), some (vi (c : Int)), some (vi (lt (I 21 0 i) (I 22 0 i) c (I 20 0 8))), some (vi (e : Int))] [] (MM sc I J) Q ↔ X (d + 4) m_C_alike 74 [some (vr 0 0), some (vi (i : Int)), some (vi (j : Int)), some (vi (if akW (I 21 0 i) (I 21 0 j) (I 22 0 i) (I 22 0 j) (I 20 0 8) (7 * c + e) = 1 then (if x4 = 0 then en ((7 * c + e : Nat) : Int) else x3) else x3)), some (vi (x4 + (if akW (I 21 0 i) (I 21 0 j) (I 22 0 i) (I 22 0 j) (I 20 0 8) (7 * c + e) = 1 then 1 else 0))), some (vi (c : Int)), some (vi (lt (I 21 0 i) (I 22 0 i) c (I 20 0 8))), some (vi ((e + 1 : Nat) : Int))] [] (MM sc I J) Q := by
  have q1 : (7 * c + e) / 7 = c := by omega
  have q2 : (7 * c + e) % 7 = e := by omega
  have w1 : w32 (w32 (10 * (c : Int)) + (e : Int)) = en ((7 * c + e : Nat) : Int) := by
    rw [en_n, q1, q2, w32_eq (x := 10 * (c : Int)) (by omega) (by omega), w32_eq (by omega) (by omega)]
  rw [b_C_alike_74, if_neg (by omega), b_C_alike_81, and_iff_right (by omega), Int.toNat_natCast, b_C_alike_92, and_iff_right (by omega), Int.toNat_natCast, b_C_alike_101, w32_eq (x := I 20 0 8 + 1) (by omega) (by omega), s_K_lifeThen (by omega) (by omega) hLj.1 hLj.2 (by omega), ap_s, b_C_alike_115, b_C_alike_118, b_C_alike_123, b_C_alike_134, b_C_alike_135, b_C_alike_135, b_C_alike_139, b_C_alike_139, b_C_alike_139, wsuc (by omega), w32_eq (x := x4 + 1) (by omega) (by omega), w1]
  unfold akW
  rw [q1, q2]
  by_cases z : lt (I 21 0 i) (I 22 0 i) c (I 20 0 8) = lt (I 21 0 j) (I 22 0 j) e (I 20 0 8 + 1)
  · rw [if_pos z, if_pos z, if_pos rfl, if_pos rfl]
    by_cases y : x4 = 0
    · rw [if_pos y, if_pos y]
    · rw [if_neg y, if_neg y]
  · rw [if_neg z, if_neg z, if_neg (by decide), if_neg (by decide), Int.add_zero]
theorem l_C_al1 {i j c : Nat} (hi : i < 6) (hj : j < 6) (hc : c < 7) (hLj : 0 ≤ I 22 0 j ∧ I 22 0 j ≤ 999) (hn : 0 ≤ I 20 0 8 ∧ I 20 0 8 ≤ 1000) : ∀ (m e : Nat), e + m = 7 → (X (d + 4) m_C_alike 74 [some (vr 0 0), some (vi (i : Int)), some (vi (j : Int)), some (vi (en (fi (akW (I 21 0 i) (I 21 0 j) (I 22 0 i) (I 22 0 j) (I 20 0 8)) 1 (7 * c + e)))), some (vi (cf (akW (I 21 0 i) (I 21 0 j) (I 22 0 i) (I 22 0 j) (I 20 0 8)) 1 (7 * c + e))), some (vi (c : Int)), some (vi (lt (I 21 0 i) (I 22 0 i) c (I 20 0 8))), some (vi (e : Int))] [] (MM sc I J) Q ↔ X (d + 4) m_C_alike 32 [some (vr 0 0), some (vi (i : Int)), some (vi (j : Int)), some (vi (en (fi (akW (I 21 0 i) (I 21 0 j) (I 22 0 i) (I 22 0 j) (I 20 0 8)) 1 (7 * (c + 1))))), some (vi (cf (akW (I 21 0 i) (I 21 0 j) (I 22 0 i) (I 22 0 j) (I 20 0 8)) 1 (7 * (c + 1)))), some (vi ((c + 1 : Nat) : Int)), some (vi (lt (I 21 0 i) (I 22 0 i) c (I 20 0 8))), some (vi 7)] [] (MM sc I J) Q)
  | 0, e, h => by
    have e1 : e = 7 := by omega
    subst e1
    rw [b_C_alike_74, if_pos (by omega), b_C_alike_145, wsuc (by omega)]
    exact Iff.rfl
  | m + 1, e, h => by
    have hcf := cf_in (W := akW (I 21 0 i) (I 21 0 j) (I 22 0 i) (I 22 0 j) (I 20 0 8)) (v := 1) (7 * c + e)
    rw [← l_C_al1 hi hj hc hLj hn m (e + 1) (by omega), st_C_al hi hj hc (by omega) hLj hn (by omega)]
    rw [show 7 * c + (e + 1) = 7 * c + e + 1 from rfl, fi, cf]
    by_cases z : akW (I 21 0 i) (I 21 0 j) (I 22 0 i) (I 22 0 j) (I 20 0 8) (7 * c + e) = 1
    · rw [if_pos z, if_pos z, if_pos z]
      by_cases y : cf (akW (I 21 0 i) (I 21 0 j) (I 22 0 i) (I 22 0 j) (I 20 0 8)) 1 (7 * c + e) = 0
      · rw [if_pos y, if_pos y]
      · rw [if_neg y, if_neg y]
    · rw [if_neg z, if_neg z, if_neg z]
theorem l_C_al2 {i j : Nat} (hi : i < 6) (hj : j < 6) (hL : 0 ≤ I 22 0 i ∧ I 22 0 i ≤ 999) (hLj : 0 ≤ I 22 0 j ∧ I 22 0 j ≤ 999) (hn : 0 ≤ I 20 0 8 ∧ I 20 0 8 ≤ 1000) : ∀ (m c : Nat) (o6 o7 : Option AV), c + m = 7 → (X (d + 4) m_C_alike 32 [some (vr 0 0), some (vi (i : Int)), some (vi (j : Int)), some (vi (en (fi (akW (I 21 0 i) (I 21 0 j) (I 22 0 i) (I 22 0 j) (I 20 0 8)) 1 (7 * c)))), some (vi (cf (akW (I 21 0 i) (I 21 0 j) (I 22 0 i) (I 22 0 j) (I 20 0 8)) 1 (7 * c))), some (vi (c : Int)), o6, o7] [] (MM sc I J) Q ↔ if cf (akW (I 21 0 i) (I 21 0 j) (I 22 0 i) (I 22 0 j) (I 20 0 8)) 1 49 = 0 then Q (some (vi (-9))) (MM sc I J) else Q (some (vi (cf (akW (I 21 0 i) (I 21 0 j) (I 22 0 i) (I 22 0 j) (I 20 0 8)) 1 49))) (MM sc (upI I 0 0 6 (en (fi (akW (I 21 0 i) (I 21 0 j) (I 22 0 i) (I 22 0 j) (I 20 0 8)) 1 49))) J))
  | 0, c, o6, o7, e => by
    have e1 : c = 7 := by omega
    subst e1
    rw [b_C_alike_32, if_pos (by omega), b_C_alike_151, b_C_alike_156, b_C_alike_159, b_C_alike_164]
  | m + 1, c, o6, o7, e => by
    rw [← l_C_al2 hi hj hL hLj hn m (c + 1) (some (vi (lt (I 21 0 i) (I 22 0 i) c (I 20 0 8)))) (some (vi 7)) (by omega), b_C_alike_32, if_neg (by omega), b_C_alike_39, and_iff_right (by omega), Int.toNat_natCast, b_C_alike_48, and_iff_right (by omega), Int.toNat_natCast, b_C_alike_57, s_K_lifeThen (by omega) (by omega) hL.1 hL.2 hn.1, ap_s, b_C_alike_69]
    exact l_C_al1 hi hj (by omega) hLj hn 7 0 (by omega)
end AL
