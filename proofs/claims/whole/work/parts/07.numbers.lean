/-! NUMBERS: an abstract int of its range stands for the Int32 of it -/
def i32 (x : Int) : Prop := -2147483648 ≤ x ∧ x ≤ 2147483647
def i64 (x : Int) : Prop := -9223372036854775808 ≤ x ∧ x ≤ 9223372036854775807
theorem w32_in (x : Int) : i32 (w32 x) := by
  have h1 := Int.le_bmod (x := x) (m := 4294967296) (by decide)
  have h2 := Int.bmod_lt (x := x) (m := 4294967296) (by decide)
  unfold i32 w32
  omega
theorem w64_in (x : Int) : i64 (w64 x) := by
  have h1 := Int.le_bmod (x := x) (m := 18446744073709551616) (by decide)
  have h2 := Int.bmod_lt (x := x) (m := 18446744073709551616) (by decide)
  unfold i64 w64
  omega
theorem w8_in (x : Int) : -128 ≤ w8 x ∧ w8 x ≤ 127 := by
  have h1 := Int.le_bmod (x := x) (m := 256) (by decide)
  have h2 := Int.bmod_lt (x := x) (m := 256) (by decide)
  unfold w8
  omega
theorem w32_id {x : Int} (h : i32 x) : w32 x = x := by
  unfold i32 at h
  unfold w32
  exact Int.bmod_eq_of_le (by omega) (by omega)
theorem w64_id {x : Int} (h : i64 x) : w64 x = x := by
  unfold i64 at h
  unfold w64
  exact Int.bmod_eq_of_le (by omega) (by omega)
theorem w8_id {x : Int} (h1 : -128 ≤ x) (h2 : x ≤ 127) : w8 x = x := by
  unfold w8
  exact Int.bmod_eq_of_le (by omega) (by omega)
theorem tI {x : Int} (h : i32 x) : (Int32.ofInt x).toInt = x := by
  rw [Int32.toInt_ofInt]
  exact w32_id h
theorem tL {x : Int} (h : i64 x) : (Int64.ofInt x).toInt = x := by
  rw [Int64.toInt_ofInt]
  exact w64_id h
theorem oI {a : Int32} {x : Int} (h : a.toInt = x) : a = Int32.ofInt x := by rw [← h, Int32.ofInt_toInt]
theorem oL {a : Int64} {x : Int} (h : a.toInt = x) : a = Int64.ofInt x := by rw [← h, Int64.ofInt_toInt]
theorem i32_of (a : Int32) : i32 a.toInt := by
  have h1 := a.toInt_lt
  have h2 := a.le_toInt
  unfold i32
  omega
theorem i64_of (a : Int64) : i64 a.toInt := by
  have h1 := a.toInt_lt
  have h2 := a.le_toInt
  unfold i64
  omega
theorem tN {x : Int} (h : i32 x) : (Int32.ofInt x).toNatClampNeg = x.toNat := by rw [← Int32.toNat_toInt, tI h]
theorem o_add {x y : Int} (h : i32 x) (k : i32 y) : Int32.ofInt x + Int32.ofInt y = Int32.ofInt (w32 (x + y)) := oI (by rw [Int32.toInt_add, tI h, tI k]; rfl)
theorem o_sub {x y : Int} (h : i32 x) (k : i32 y) : Int32.ofInt x - Int32.ofInt y = Int32.ofInt (w32 (x - y)) := oI (by rw [Int32.toInt_sub, tI h, tI k]; rfl)
theorem o_mul {x y : Int} (h : i32 x) (k : i32 y) : Int32.ofInt x * Int32.ofInt y = Int32.ofInt (w32 (x * y)) := oI (by rw [Int32.toInt_mul, tI h, tI k]; rfl)
theorem o_neg {x : Int} (h : i32 x) : -Int32.ofInt x = Int32.ofInt (w32 (-x)) := oI (by rw [Int32.toInt_neg, tI h]; rfl)
theorem o_div {x y : Int} (h : i32 x) (k : i32 y) : Int32.ofInt x / Int32.ofInt y = Int32.ofInt (w32 (x.tdiv y)) := oI (by rw [Int32.toInt_div, tI h, tI k]; rfl)
theorem tmod_in {x y : Int} (h : i32 x) : i32 (x.tmod y) := by
  unfold i32 at *
  have h1 : (x.tmod y).natAbs ≤ x.natAbs := by rw [Int.natAbs_tmod]; exact Nat.mod_le _ _
  rcases Int.le_total 0 x with hx | hx
  · have := Int.tmod_nonneg y hx
    omega
  · have h2 : (x.tmod y) ≤ 0 := by
      have := Int.tmod_nonneg y (show 0 ≤ -x by omega)
      rw [Int.neg_tmod] at this
      omega
    omega
theorem tmod_in64 {x y : Int} (h : i64 x) : i64 (x.tmod y) := by
  unfold i64 at *
  have h1 : (x.tmod y).natAbs ≤ x.natAbs := by rw [Int.natAbs_tmod]; exact Nat.mod_le _ _
  rcases Int.le_total 0 x with hx | hx
  · have := Int.tmod_nonneg y hx
    omega
  · have h2 : (x.tmod y) ≤ 0 := by
      have := Int.tmod_nonneg y (show 0 ≤ -x by omega)
      rw [Int.neg_tmod] at this
      omega
    omega
theorem o_rem {x y : Int} (h : i32 x) (k : i32 y) : Int32.ofInt x - Int32.ofInt x / Int32.ofInt y * Int32.ofInt y = Int32.ofInt (x.tmod y) := oI (by
  rw [Int32.toInt_sub, Int32.toInt_mul, Int32.toInt_div, tI h, tI k, Int.bmod_mul_bmod, Int.sub_bmod_bmod, Int.mul_comm, ← Int.tmod_def]
  exact w32_id (tmod_in h))
theorem ol_add {x y : Int} (h : i64 x) (k : i64 y) : Int64.ofInt x + Int64.ofInt y = Int64.ofInt (w64 (x + y)) := oL (by rw [Int64.toInt_add, tL h, tL k]; rfl)
theorem ol_mul {x y : Int} (h : i64 x) (k : i64 y) : Int64.ofInt x * Int64.ofInt y = Int64.ofInt (w64 (x * y)) := oL (by rw [Int64.toInt_mul, tL h, tL k]; rfl)
theorem ol_div {x y : Int} (h : i64 x) (k : i64 y) : Int64.ofInt x / Int64.ofInt y = Int64.ofInt (w64 (x.tdiv y)) := oL (by rw [Int64.toInt_div, tL h, tL k]; rfl)
theorem ol_rem {x y : Int} (h : i64 x) (k : i64 y) : Int64.ofInt x - Int64.ofInt x / Int64.ofInt y * Int64.ofInt y = Int64.ofInt (x.tmod y) := oL (by
  rw [Int64.toInt_sub, Int64.toInt_mul, Int64.toInt_div, tL h, tL k, Int.bmod_mul_bmod, Int.sub_bmod_bmod, Int.mul_comm, ← Int.tmod_def]
  exact w64_id (tmod_in64 h))
theorem o_i2l {x : Int} (h : i32 x) : (Int32.ofInt x).toInt64 = Int64.ofInt x := oL (by rw [Int32.toInt_toInt64, tI h])
theorem o_l2i {x : Int} (h : i64 x) : (Int64.ofInt x).toInt32 = Int32.ofInt (w32 x) := oI (by rw [Int64.toInt_toInt32, tL h]; rfl)
theorem o_i2b {x : Int} (h : i32 x) : (Int32.ofInt x).toInt8.toInt32 = Int32.ofInt (w8 x) := oI (by rw [Int8.toInt_toInt32, Int32.toInt_toInt8, tI h]; rfl)
theorem o_bi {n : Int} (h1 : -128 ≤ n) (h2 : n ≤ 127) : (Int8.ofInt n).toInt32 = Int32.ofInt n := oI (by rw [Int8.toInt_toInt32, Int8.toInt_ofInt]; exact w8_id h1 h2)
theorem o_si {n : Int} (h1 : -32768 ≤ n) (h2 : n ≤ 32767) : (Int16.ofInt n).toInt32 = Int32.ofInt n := oI (by rw [Int16.toInt_toInt32, Int16.toInt_ofInt]; show n.bmod 65536 = n; exact Int.bmod_eq_of_le (by omega) (by omega))
theorem o_lt {x y : Int} (h : i32 x) (k : i32 y) : Int32.ofInt x < Int32.ofInt y ↔ x < y := by rw [Int32.lt_iff_toInt_lt, tI h, tI k]
theorem o_le {x y : Int} (h : i32 x) (k : i32 y) : Int32.ofInt x ≤ Int32.ofInt y ↔ x ≤ y := by rw [Int32.le_iff_toInt_le, tI h, tI k]
theorem o_eq {x y : Int} (h : i32 x) (k : i32 y) : Int32.ofInt x = Int32.ofInt y ↔ x = y := by rw [← Int32.toInt_inj, tI h, tI k]
theorem ol_lt {x y : Int} (h : i64 x) (k : i64 y) : Int64.ofInt x < Int64.ofInt y ↔ x < y := by rw [Int64.lt_iff_toInt_lt, tL h, tL k]
theorem ol_eq {x y : Int} (h : i64 x) (k : i64 y) : Int64.ofInt x = Int64.ofInt y ↔ x = y := by rw [← Int64.toInt_inj, tL h, tL k]
theorem o_zero : (0 : Int32) = Int32.ofInt 0 := by decide
theorem ol_zero : (0 : Int64) = Int64.ofInt 0 := by decide
theorem i32_0 : i32 0 := ⟨by decide, by decide⟩
theorem i64_0 : i64 0 := ⟨by decide, by decide⟩
theorem i32_wide {x : Int} (h : i32 x) : i64 x := ⟨by unfold i32 at h; omega, by unfold i32 at h; omega⟩
theorem o_cmp {x y : Int} (h : i64 x) (k : i64 y) : lg_cmp (Int64.ofInt x) (Int64.ofInt y) = Int32.ofInt (l_cmp x y) := by
  unfold lg_cmp l_cmp
  simp only [ol_lt k h, ol_eq h k]
  split
  · decide
  · split <;> decide
theorem l_cmp_in (x y : Int) : i32 (l_cmp x y) := by
  unfold l_cmp i32
  split
  · omega
  · split <;> omega
/-- an index in its range -/
theorem o_vp {i : Int} {n : Nat} (h : i32 i) (h0 : 0 ≤ i) (h1 : i < n) : vp_in (Int32.ofInt i) n := by
  rw [vp_in_iff, tI h]
  exact ⟨h0, h1⟩
theorem ix_i32 {i : Int} {n : Nat} (hn : n < 2147483648) (h0 : 0 ≤ i) (h1 : i < n) : i32 i := by
  unfold i32
  omega
