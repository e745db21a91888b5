/-! COUNT, the calls -/
def ctV (I : TI) (n : Nat) (w : Int) : Int := if w = 0 then I 39 0 4 else if w = 1 then I 46 0 0 else if w = 2 then I 39 0 9 else if w = 3 then acF (fun q => I 46 0 (19 + q)) n else if w = 4 then wSF (I 45 0) (lf3 (I 46 0)) (((2 ^ n : Nat) : Int) - 1) n else if w = 5 then hmF (I 45 0) 1 n else if w = 6 then hmF (I 45 0) 2 n else if w = 7 then thF (I 40 0) 6 else if w = 8 then thF (I 42 0) 4 else if w = 9 then kpF (I 51 0) 3 else -1
section CU
variable {d : Nat} {Q : Option AV → AMem → Prop} {sc : SC} {I J : TI}
theorem s_C_hmt1 : X (d + 1) m_C_howManyThere 0 [some (vr 1 0), none, none, none, none, none] [] (MM sc I J) Q ↔ Q (some (vi (thF (fun j => I 28 (0 + j) 1) 6))) (MM sc I J) := by
  have h0 : ∀ f g, cellF sc 1 0 f g = .inr (.inl (3, 6, fun j => if j < 6 then some (28, 0 + j) else none)) := fun f g => by
    have : (fun j => if j < 6 then some (28, 0 + j) else none) = (fun j : Nat => if j < 6 then some ((28 : Nat), j) else none) := by funext j; rw [Nat.zero_add]
    rw [this]
    rfl
  rw [b_C_howManyThere_0 h0, b_C_howManyThere_6]
  exact l_C_hmt h0 (by decide) 6 0 none (by omega)
theorem s_C_hmt2 : X (d + 1) m_C_howManyThere 0 [some (vr 2 0), none, none, none, none, none] [] (MM sc I J) Q ↔ Q (some (vi (thF (fun j => I 28 (6 + j) 1) 4))) (MM sc I J) := by
  have h0 : ∀ f g, cellF sc 2 0 f g = .inr (.inl (3, 4, fun j => if j < 4 then some (28, 6 + j) else none)) := fun f g => rfl
  rw [b_C_howManyThere_0 h0, b_C_howManyThere_6]
  exact l_C_hmt h0 (by decide) 4 0 none (by omega)
theorem s_C_hmk : X (d + 1) m_C_howManyKept 0 [some (vr 0 0), none, none, none, none, none] [] (MM sc I J) Q ↔ Q (some (vi (kpF (fun k => I 20 (1 + k) 7) 3))) (MM sc I J) := by
  rw [b_C_howManyKept_0]
  exact l_C_hmk 3 0 none (by omega)
theorem s_D_there6 : X d m_D_there 0 [some (vr 40 0), none, none] [] (MM sc I J) Q ↔ Q (some (vi (thF (I 40 0) 6))) (MM sc I J) := by
  rw [b_D_there_0]
  exact l_D_there (fun _ _ => rfl) (by decide) 6 0 (by omega)
theorem s_D_there4 : X d m_D_there 0 [some (vr 42 0), none, none] [] (MM sc I J) Q ↔ Q (some (vi (thF (I 42 0) 4))) (MM sc I J) := by
  rw [b_D_there_0]
  exact l_D_there (fun _ _ => rfl) (by decide) 4 0 (by omega)
theorem s_D_km : X d m_D_keptMany 0 [some (vr 39 0), none, none] [] (MM sc I J) Q ↔ Q (some (vi (kpF (I 51 0) 3))) (MM sc I J) := by
  rw [b_D_keptMany_0]
  exact l_D_km 3 0 (by omega)
theorem s_D_count {n : Nat} {w : Int} (hn : n ≤ 6) (hs : I 39 0 4 = n) (hd : ∀ j, j < n → dg3 (I 46 0) j) : X (d + 4) m_D_count 0 [some (vr 39 0), some (vi w)] [] (MM sc I J) Q ↔ Q (some (vi (ctV I n w))) (MM sc I J) := by
  have hp := pow_in hn
  have hset : 0 ≤ ((2 ^ n : Nat) : Int) - 1 ∧ ((2 ^ n : Nat) : Int) - 1 < 64 := by omega
  have esh : w32 (((2 ^ n : Nat) : Int) - 1) = ((2 ^ n : Nat) : Int) - 1 := w32_eq (by omega) (by omega)
  have z0 : (0 ≤ (0 : Int) ∧ (0 : Int) < 25) := by decide
  rw [b_D_count_0, b_D_count_56, b_D_count_61, and_iff_right z0, show (0 : Int).toNat = 0 from rfl, b_D_count_67, b_D_count_68, b_D_count_73, s_D_across hn hs, ap_s, b_D_count_77, b_D_count_78, hs, shl_n hn, esh, s_D_wos hset hn hs hd, ap_s, b_D_count_90, b_D_count_91, s_D_those hn hs, ap_s, b_D_count_96, b_D_count_97, s_D_those hn hs, ap_s, b_D_count_102, b_D_count_103, s_D_there6, ap_s, b_D_count_110, b_D_count_111, s_D_there4, ap_s, b_D_count_118, b_D_count_119, s_D_km, ap_s, b_D_count_123, b_D_count_124, ctV, hs]
  by_cases c0 : w = 0
  · rw [if_pos c0, if_pos c0]
  rw [if_neg c0, if_neg c0]
  by_cases c1 : w = 1
  · rw [if_pos c1, if_pos c1]
  rw [if_neg c1, if_neg c1]
  by_cases c2 : w = 2
  · rw [if_pos c2, if_pos c2]
  rw [if_neg c2, if_neg c2]
  by_cases c3 : w = 3
  · rw [if_pos c3, if_pos c3]
  rw [if_neg c3, if_neg c3]
  by_cases c4 : w = 4
  · rw [if_pos c4, if_pos c4]
  rw [if_neg c4, if_neg c4]
  by_cases c5 : w = 5
  · rw [if_pos c5, if_pos c5]
  rw [if_neg c5, if_neg c5]
  by_cases c6 : w = 6
  · rw [if_pos c6, if_pos c6]
  rw [if_neg c6, if_neg c6]
  by_cases c7 : w = 7
  · rw [if_pos c7, if_pos c7]
  rw [if_neg c7, if_neg c7]
  by_cases c8 : w = 8
  · rw [if_pos c8, if_pos c8]
  rw [if_neg c8, if_neg c8]
  by_cases c9 : w = 9
  · rw [if_pos c9, if_pos c9]
  rw [if_neg c9, if_neg c9]
theorem s_C_count (h : Inv I J) {n : Nat} {w : Int} (hs : I 39 0 4 = n) : X (d + 4) m_C_count 0 [some (vr 0 0), some (vi w)] [] (MM sc I J) Q ↔ Q (some (vi (ctV I n w))) (MM sc I J) := by
  obtain ⟨n1, n2, n3, n4, n5, n6, n7, n8, n9⟩ := inv_num h
  have hn : n ≤ 6 := by omega
  have hs2 : I 20 0 7 = n := by omega
  have hp := pow_in hn
  have hset : 0 ≤ ((2 ^ n : Nat) : Int) - 1 ∧ ((2 ^ n : Nat) : Int) - 1 < 64 := by omega
  have ps : ∀ j, j < n → _ := fun j hj => inv_pas h (i := j) (by omega)
  have hd : ∀ j, j < n → dg3 (I 46 0) j := fun j hj => (ps j hj).2.2.2.2.2.1
  have hL : ∀ j, j < n → 0 ≤ I 22 0 j ∧ I 22 0 j ≤ 999 := fun j hj => by rw [(ps j hj).2.2.2.1]; exact lf3_in (hd j hj)
  have q3 : acF (I 23 0) n = acF (fun q => I 46 0 (19 + q)) n := acF_eq (fun j hj => (ps j hj).2.2.2.2.1)
  have q4 : wSF (I 21 0) (I 22 0) (((2 ^ n : Nat) : Int) - 1) n = wSF (I 45 0) (lf3 (I 46 0)) (((2 ^ n : Nat) : Int) - 1) n := wSF_eq (fun j hj => ⟨(ps j hj).2.1, (ps j hj).2.2.2.1⟩)
  have q5 : ∀ o, hmF (I 21 0) o n = hmF (I 45 0) o n := fun o => hmF_eq (fun j hj => (ps j hj).2.1)
  have q7 : thF (fun j => I 28 (0 + j) 1) 6 = thF (I 40 0) 6 := thF_eq (fun j hj => by rw [Nat.zero_add]; exact (h.1 j hj).1.symm)
  have q8 : thF (fun j => I 28 (6 + j) 1) 4 = thF (I 42 0) 4 := thF_eq (fun j hj => (h.2.1 j hj).1.symm)
  have q9 : kpF (fun k => I 20 (1 + k) 7) 3 = kpF (I 51 0) 3 := kpF_eq (fun j hj => by
    rcases h.2.2.2.2.1 j hj with z | ⟨z1, z2, z3, z4⟩
    · exact ⟨fun _ => z.1, fun _ => z.2⟩
    · exact ⟨fun y => by omega, fun y => by omega⟩)
  have esh : w32 (((2 ^ n : Nat) : Int) - 1) = ((2 ^ n : Nat) : Int) - 1 := w32_eq (by omega) (by omega)
  rw [b_C_count_0, b_C_count_56, b_C_count_64, b_C_count_72, b_C_count_80, s_F_obo hn hs2, ap_s, b_C_count_87, b_C_count_88, b_F_setCount_0, ap_s, b_C_count_99, hs2, shl_n hn, esh, s_F_wos hset hn hs2 hL, ap_s, b_C_count_104, b_C_count_105, s_F_hmo (by decide) hn hs2, ap_s, b_C_count_113, b_C_count_114, s_F_hmo (by decide) hn hs2, ap_s, b_C_count_122, b_C_count_123, s_C_hmt1, ap_s, b_C_count_130, b_C_count_131, s_C_hmt2, ap_s, b_C_count_138, b_C_count_139, s_C_hmk, ap_s, b_C_count_143, b_C_count_144, n4, n7, q3, q4, q5, q5, q7, q8, q9, ctV, hs]
  by_cases c0 : w = 0
  · rw [if_pos c0, if_pos c0]
  rw [if_neg c0, if_neg c0]
  by_cases c1 : w = 1
  · rw [if_pos c1, if_pos c1]
  rw [if_neg c1, if_neg c1]
  by_cases c2 : w = 2
  · rw [if_pos c2, if_pos c2]
  rw [if_neg c2, if_neg c2]
  by_cases c3 : w = 3
  · rw [if_pos c3, if_pos c3]
  rw [if_neg c3, if_neg c3]
  by_cases c4 : w = 4
  · rw [if_pos c4, if_pos c4]
  rw [if_neg c4, if_neg c4]
  by_cases c5 : w = 5
  · rw [if_pos c5, if_pos c5]
  rw [if_neg c5, if_neg c5]
  by_cases c6 : w = 6
  · rw [if_pos c6, if_pos c6]
  rw [if_neg c6, if_neg c6]
  by_cases c7 : w = 7
  · rw [if_pos c7, if_pos c7]
  rw [if_neg c7, if_neg c7]
  by_cases c8 : w = 8
  · rw [if_pos c8, if_pos c8]
  rw [if_neg c8, if_neg c8]
  by_cases c9 : w = 9
  · rw [if_pos c9, if_pos c9]
  rw [if_neg c9, if_neg c9]
theorem op_count (h : Inv I J) (w : Int) : OpW m_C_count m_D_count [some (vr 0 0), some (vi w)] [some (vr 39 0), some (vi w)] sc I J := by
  obtain ⟨n1, n2, n3, n4, n5, n6, n7, n8, n9⟩ := inv_num h
  obtain ⟨n, hn⟩ := Int.eq_ofNat_of_zero_le n2
  refine opW_no h (ctV I n w) (fun d Q hQ => ?_) (fun d Q hQ => ?_)
  · exact (s_C_count h hn).mpr hQ
  · exact (s_D_count (by omega) hn (fun j hj => (inv_pas h (i := j) (by omega)).2.2.2.2.2.1)).mpr hQ
end CU
