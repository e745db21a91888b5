/-! ALIKE -/
/-- are both alike by a code of two declarations -/
def akW (ki kj Li Lj n : Int) (q : Nat) : Int := if lt ki Li ((q / 7 : Nat) : Int) n = lt kj Lj ((q % 7 : Nat) : Int) (n + 1) then 1 else 0
def en (x : Int) : Int := if x = -9 then -9 else 10 * (x / 7) + x % 7
theorem en_n (q : Nat) : en (q : Int) = 10 * ((q / 7 : Nat) : Int) + ((q % 7 : Nat) : Int) := by
  unfold en
  rw [if_neg (by omega)]
  omega
theorem fi_in {W : Nat → Int} {v : Int} : ∀ j : Nat, fi W v j = -9 ∨ (0 ≤ fi W v j ∧ fi W v j < j)
  | 0 => Or.inl rfl
  | j + 1 => by
    have := fi_in (W := W) (v := v) j
    unfold fi
    (repeat' split) <;> omega
section AL
variable {d : Nat} {Q : Option AV → AMem → Prop} {sc : SC} {I J : TI}
theorem st_C_al {i j c e : Nat} {x3 x4 : Int} (hi : i < 6) (hj : j < 6) (hc : c < 7) (he : e < 7) (hLj : 0 ≤ I 22 0 j ∧ I 22 0 j ≤ 999) (hn : 0 ≤ I 20 0 8 ∧ I 20 0 8 ≤ 1000) (h4 : 0 ≤ x4 ∧ x4 ≤ 1000) : X (d + 4) m_C_alike 74 [some (vr 0 0), some (vi (i : Int)), some (vi (j : Int)), some (vi x3), some (vi x4), some (vi (c : Int)), some (vi (lt (I 21 0 i) (I 22 0 i) c (I 20 0 8))), some (vi (e : Int))] [] (MM sc I J) Q ↔ X (d + 4) m_C_alike 74 [some (vr 0 0), some (vi (i : Int)), some (vi (j : Int)), some (vi (if akW (I 21 0 i) (I 21 0 j) (I 22 0 i) (I 22 0 j) (I 20 0 8) (7 * c + e) = 1 then (if x4 = 0 then en ((7 * c + e : Nat) : Int) else x3) else x3)), some (vi (x4 + (if akW (I 21 0 i) (I 21 0 j) (I 22 0 i) (I 22 0 j) (I 20 0 8) (7 * c + e) = 1 then 1 else 0))), some (vi (c : Int)), some (vi (lt (I 21 0 i) (I 22 0 i) c (I 20 0 8))), some (vi ((e + 1 : Nat) : Int))] [] (MM sc I J) Q := by
  have q1 : (7 * c + e) / 7 = c := by omega
  have q2 : (7 * c + e) % 7 = e := by omega
  have w1 : w32 (w32 (10 * (c : Int)) + (e : Int)) = en ((7 * c + e : Nat) : Int) := by
    rw [en_n, q1, q2, w32_eq (x := 10 * (c : Int)) (by omega) (by omega), w32_eq (by omega) (by omega)]
  rw [b_C_alike_74, if_neg (by omega), b_C_alike_81, and_iff_right (by omega), Int.toNat_natCast, b_C_alike_92, and_iff_right (by omega), Int.toNat_natCast, b_C_alike_101, w32_eq (x := I 20 0 8 + 1) (by omega) (by omega), s_K_lifeThen (by omega) (by omega) hLj.1 hLj.2 (by omega), ap_s, b_C_alike_115, b_C_alike_118, b_C_alike_123, b_C_alike_134, b_C_alike_135, b_C_alike_135, b_C_alike_139, b_C_alike_139, b_C_alike_139, wsuc (by omega), w32_eq (x := x4 + 1) (by omega) (by omega), w1]
  unfold akW
  rw [q1, q2]
  by_cases z : lt (I 21 0 i) (I 22 0 i) c (I 20 0 8) = lt (I 21 0 j) (I 22 0 j) e (I 20 0 8 + 1)
  · rw [if_pos z, if_pos z, if_pos rfl, if_pos rfl]
    by_cases y : x4 = 0
    · rw [if_pos y, if_pos y]
    · rw [if_neg y, if_neg y]
  · rw [if_neg z, if_neg z, if_neg (by decide), if_neg (by decide), Int.add_zero]
end AL
