/-! LOTS -/
def mix (A C : TI) : TI := fun t => if t < 39 then A t else C t
theorem mx_lo {A C : TI} {t : Nat} (h : t < 39) : mix A C t = A t := if_pos h
theorem mx_hi {A C : TI} {t : Nat} (h : ¬ t < 39) : mix A C t = C t := if_neg h
theorem up_ne {I : TI} {t i p t' : Nat} {v : Int} (h : t' ≠ t) : upI I t i p v t' = I t' := by
  funext i' p'
  rw [rd_up, if_neg (fun z => h z.1)]
theorem up2_t {I : TI} {t i t' : Nat} {f : Nat → Int} (h : t' ≠ t) : up2 I t i f t' = I t' := by
  funext i' p'
  rw [rd_up2, if_neg (fun z => h z.1)]
theorem brI_t {I : TI} {t0 i0 a t2 i2 b n t' : Nat} (h : t' ≠ t2) : brI I t0 i0 a t2 i2 b n t' = I t' := by
  funext i' p'
  simp only [brI]
  rw [if_neg (fun z => h z.1)]
def cDi (A : TI) (i D : Nat) (v : Int) : TI := if v / 8 % 8 = 7 then upI (nd A i D) 22 0 i (A 22 0 i + (v / 256 % 10 - dg (A 22 0 i) (v / 64 % 3)) * wth (v / 64 % 3)) else if ld (A 21 0 i) (A 22 0 i) (v / 8 % 7) (A 20 0 8) = -1 then upI (nd A i D) 20 0 8 (A 20 0 8 + 1) else upI (upI (upI (nd A i D) 20 0 8 (A 20 0 8 + 1)) 22 0 i (ld (A 21 0 i) (A 22 0 i) (v / 8 % 7) (A 20 0 8))) 23 0 i (1 - A 23 0 i)
def rDi (C : TI) (i D : Nat) (v : Int) : TI := if v / 8 % 8 = 7 then upI (nt C D) 46 0 (1 + 3 * i + (v / 64 % 3).toNat) (v / 256 % 10) else up2 (nt C D) 46 0 (crS (C 45 0 i) (C 46 0) i (v / 8 % 7))
def cD (A : TI) (v : Int) : TI := cDi A (v % A 20 0 7).toNat (A 20 0 9).toNat v
def rD (C : TI) (v : Int) : TI := rDi C (v % C 39 0 4).toNat (C 39 0 9).toNat v
theorem nd_hi {A : TI} {i D t : Nat} (h : 39 ≤ t) : nd A i D t = A t := by
  unfold nd
  rw [up_ne (by omega), up_ne (by omega), up_ne (by omega), up_ne (by omega), up_ne (by omega)]
theorem cDi_hi {A : TI} {i D : Nat} {v : Int} {t : Nat} (h : 39 ≤ t) : cDi A i D v t = A t := by
  unfold cDi
  split
  · rw [up_ne (by omega), nd_hi h]
  · split
    · rw [up_ne (by omega), nd_hi h]
    · rw [up_ne (by omega), up_ne (by omega), up_ne (by omega), nd_hi h]
theorem nt_lo {C : TI} {D t : Nat} (h : t < 39) : nt C D t = C t := by
  unfold nt
  rw [up_ne (by omega), brI_t (by omega)]
theorem rDi_lo {C : TI} {i D : Nat} {v : Int} {t : Nat} (h : t < 39) : rDi C i D v t = C t := by
  unfold rDi
  split
  · rw [up_ne (by omega), nt_lo h]
  · rw [up2_t (by omega), nt_lo h]
theorem rDi_39 {C : TI} {i D : Nat} {v : Int} : rDi C i D v 39 0 9 = ((D + 1 : Nat) : Int) ∧ rDi C i D v 39 0 4 = C 39 0 4 := by
  unfold rDi
  split
  · rw [up_ne (by omega)]
    exact ⟨rfl, rfl⟩
  · rw [up2_t (by omega)]
    exact ⟨rfl, rfl⟩
def lotK (x : Int) : Nat → Int
  | 0 => x
  | k + 1 => lotK x k * 48271 % 2147483647
theorem lot_in {x : Int} (h : 0 ≤ x ∧ x ≤ 2147483646) : ∀ k : Nat, 0 ≤ lotK x k ∧ lotK x k ≤ 2147483646
  | 0 => h
  | k + 1 => by
    unfold lotK
    omega
theorem lot_w {y : Int} (h : 0 ≤ y ∧ y ≤ 2147483646) : (w64 (y * 48271)).tmod 2147483647 = y * 48271 % 2147483647 := by
  rw [w64_eq (by omega) (by omega), tm_eq (by omega)]
theorem lot_32 {y : Int} (h : 0 ≤ y ∧ y ≤ 2147483646) : w32 y = y := w32_eq (by omega) (by omega)
theorem ltq8 {v : Int} (h : 0 ≤ v ∧ v ≤ 2147483646) : (w32 (v.tdiv 8)).tmod 8 = v / 8 % 8 := by rw [td_eq h.1, w32_eq (by omega) (by omega), tm_eq (by omega)]
theorem ltq7 {v : Int} (h : 0 ≤ v ∧ v ≤ 2147483646) : (w32 (v.tdiv 8)).tmod 7 = v / 8 % 7 := by rw [td_eq h.1, w32_eq (by omega) (by omega), tm_eq (by omega)]
theorem ltq3 {v : Int} (h : 0 ≤ v ∧ v ≤ 2147483646) : (w32 (v.tdiv 64)).tmod 3 = v / 64 % 3 := by rw [td_eq h.1, w32_eq (by omega) (by omega), tm_eq (by omega)]
theorem ltq10 {v : Int} (h : 0 ≤ v ∧ v ≤ 2147483646) : (w32 (v.tdiv 256)).tmod 10 = v / 256 % 10 := by rw [td_eq h.1, w32_eq (by omega) (by omega), tm_eq (by omega)]
def cA (I : TI) (x : Int) : Nat → TI
  | 0 => I
  | k + 1 => cD (cA I x k) (lotK x (k + 1))
def rA (I : TI) (x : Int) : Nat → TI
  | 0 => I
  | k + 1 => rD (rA I x k) (lotK x (k + 1))
theorem cA_hi {I : TI} {x : Int} {t : Nat} (h : 39 ≤ t) : ∀ k : Nat, cA I x k t = I t
  | 0 => rfl
  | k + 1 => by
    show cDi (cA I x k) _ _ _ t = I t
    rw [cDi_hi h, cA_hi h k]
theorem rA_lo {I : TI} {x : Int} {t : Nat} (h : t < 39) : ∀ k : Nat, rA I x k t = I t
  | 0 => rfl
  | k + 1 => by
    show rDi (rA I x k) _ _ _ t = I t
    rw [rDi_lo h, rA_lo h k]
section LO
variable {d : Nat} {Q : Option AV → AMem → Prop} {sc : SC} {A C I J : TI}
theorem inv_lot (h : Inv (mix A C) J) {i D : Nat} {v : Int} (hi : (i : Int) < C 39 0 4) (hD : C 39 0 9 = D) (D40 : D < 40) (hv : 0 ≤ v) : Inv (mix (cDi A i D v) (rDi C i D v)) J := by
  obtain ⟨n1, n2, n3, n4, n5, n6, n7, n8, n9⟩ := inv_num h
  obtain ⟨p1, p2, p3, p4, p5, p6, p7⟩ := inv_pas h (i := i) hi
  have q2 : A 21 0 i = C 45 0 i := p2
  have q4 : A 22 0 i = lf3 (C 46 0) i := p4
  have q5 : A 23 0 i = C 46 0 (19 + i) := p5
  have q8 : A 20 0 8 = C 46 0 0 := n4
  have q6 : dg3 (C 46 0) i := p6
  unfold cDi rDi
  by_cases c : v / 8 % 8 = 7
  · rw [if_pos c, if_pos c]
    obtain ⟨w, hw⟩ := Int.eq_ofNat_of_zero_le (show 0 ≤ v / 64 % 3 by omega)
    have hw3 : w < 3 := by omega
    have x9 : 0 ≤ v / 256 % 10 ∧ v / 256 % 10 ≤ 9 := by omega
    obtain ⟨ok1, ok2, ok3, ok4⟩ := okS_set h hi hw3 x9
    have cl := (set_lf (s := C 46 0) (v := v / 256 % 10) p1 q6 hw3 x9).1
    rw [← q4] at cl
    rw [hw, Int.toNat_natCast, ← cl]
    generalize v / 256 % 10 = x at *
    refine inv_deed h hi hD D40 (s' := upF (C 46 0) (1 + 3 * i + w) x) (lf' := A 22 0) (bk' := A 22 0) (cr' := 0) ok1 (by rw [show upF (C 46 0) (1 + 3 * i + w) x 0 = C 46 0 0 from ok3]; show C 46 0 0 ≤ C 46 0 0 + 1; omega) ok2 (fun p => ?_) (fun p => ?_) ?_ rfl rfl (fun p => ?_) (fun p => ?_) (fun p => ?_) (fun p => ?_) (fun p _ => rfl) (fun p => ?_) (fun t i' p a1 a2 a3 a4 a5 => ?_)
    · show upI (nd A i D) 22 0 i (lf3 (upF (C 46 0) (1 + 3 * i + w) x) i) 22 0 p = if p = i then lf3 (upF (C 46 0) (1 + 3 * i + w) x) i else A 22 0 p
      simp [nd, rd_up]
    · show upI (nd A i D) 22 0 i (lf3 (upF (C 46 0) (1 + 3 * i + w) x) i) 23 0 p = if p = i then upF (C 46 0) (1 + 3 * i + w) x (19 + i) else A 23 0 p
      rw [show upF (C 46 0) (1 + 3 * i + w) x (19 + i) = C 46 0 (19 + i) from ok4, ← q5]
      by_cases e : p = i
      · rw [if_pos e, e]; rfl
      · rw [if_neg e]; rfl
    · rw [show upF (C 46 0) (1 + 3 * i + w) x 0 = C 46 0 0 from ok3, ← q8]; rfl
    · show upI (nd A i D) 22 0 i (lf3 (upF (C 46 0) (1 + 3 * i + w) x) i) 24 0 p = if p = D then (i : Int) else A 24 0 p
      simp [nd, rd_up]
    · show upI (nd A i D) 22 0 i (lf3 (upF (C 46 0) (1 + 3 * i + w) x) i) 25 0 p = if p = D then A 22 0 i else A 25 0 p
      simp [nd, rd_up]
    · show upI (nd A i D) 22 0 i (lf3 (upF (C 46 0) (1 + 3 * i + w) x) i) 26 0 p = if p = D then A 23 0 i else A 26 0 p
      simp [nd, rd_up]
    · show upI (nd A i D) 22 0 i (lf3 (upF (C 46 0) (1 + 3 * i + w) x) i) 27 0 p = if p = D then A 20 0 8 else A 27 0 p
      simp [nd, rd_up]
    · show upI (nt C D) 46 0 (1 + 3 * i + w) x 48 0 p = if 25 * D ≤ p ∧ p < 25 * D + 25 then C 46 0 (p - 25 * D) else C 48 0 p
      simp [nt, brI, rd_up]
    · by_cases z : t < 39
      · rw [mx_lo z, mx_lo z]
        simp only [nd, rd_up]
        repeat rw [if_neg (by omega)]
      · rw [mx_hi z, mx_hi z]
        simp only [nt, brI, rd_up]
        repeat rw [if_neg (by omega)]
  · rw [if_neg c, if_neg c]
    have c0 : 0 ≤ v / 8 % 7 := by omega
    have c6 : v / 8 % 7 ≤ 6 := by omega
    generalize v / 8 % 7 = u at *
    obtain ⟨ok1, ok2⟩ := okS_cr h hi c0 c6
    have cl := (crS_lf (k := C 45 0 i) p1 q6 c0 c6).1
    have cb := crS_bank (k := C 45 0 i) (s := C 46 0) p1 c0 c6
    rw [q2, q4, q8]
    by_cases q : ld (C 45 0 i) (lf3 (C 46 0) i) u (C 46 0 0) = -1
    · rw [if_pos q]
      refine inv_deed h hi hD D40 (s' := crS (C 45 0 i) (C 46 0) i u) (lf' := A 22 0) (bk' := A 22 0) (cr' := 0) ok1 (by rw [crS_0]; show C 46 0 0 + 1 ≤ C 46 0 0 + 1; omega) ok2 (fun p => ?_) (fun p => ?_) ?_ rfl rfl (fun p => ?_) (fun p => ?_) (fun p => ?_) (fun p => ?_) (fun p _ => rfl) (fun p => ?_) (fun t i' p a1 a2 a3 a4 a5 => ?_)
      · show upI (nd A i D) 20 0 8 (C 46 0 0 + 1) 22 0 p = if p = i then lf3 (crS (C 45 0 i) (C 46 0) i u) i else A 22 0 p
        rw [cl]
        unfold lt
        rw [if_pos q, ← q4]
        by_cases e : p = i
        · rw [if_pos e, e]; rfl
        · rw [if_neg e]; rfl
      · show upI (nd A i D) 20 0 8 (C 46 0 0 + 1) 23 0 p = if p = i then crS (C 45 0 i) (C 46 0) i u (19 + i) else A 23 0 p
        rw [cb, if_pos q, ← q5]
        by_cases e : p = i
        · rw [if_pos e, e]; rfl
        · rw [if_neg e]; rfl
      · rw [crS_0]; rfl
      · show upI (nd A i D) 20 0 8 (C 46 0 0 + 1) 24 0 p = if p = D then (i : Int) else A 24 0 p
        simp [nd, rd_up]
      · show upI (nd A i D) 20 0 8 (C 46 0 0 + 1) 25 0 p = if p = D then A 22 0 i else A 25 0 p
        simp [nd, rd_up]
      · show upI (nd A i D) 20 0 8 (C 46 0 0 + 1) 26 0 p = if p = D then A 23 0 i else A 26 0 p
        simp [nd, rd_up]
      · show upI (nd A i D) 20 0 8 (C 46 0 0 + 1) 27 0 p = if p = D then A 20 0 8 else A 27 0 p
        simp [nd, rd_up]
      · show up2 (nt C D) 46 0 (crS (C 45 0 i) (C 46 0) i u) 48 0 p = if 25 * D ≤ p ∧ p < 25 * D + 25 then C 46 0 (p - 25 * D) else C 48 0 p
        simp [nt, brI, rd_up, rd_up2]
      · by_cases z : t < 39
        · rw [mx_lo z, mx_lo z]
          simp only [nd, rd_up]
          repeat rw [if_neg (by omega)]
        · rw [mx_hi z, mx_hi z]
          simp only [nt, brI, rd_up, rd_up2]
          repeat rw [if_neg (by omega)]
    · rw [if_neg q]
      refine inv_deed h hi hD D40 (s' := crS (C 45 0 i) (C 46 0) i u) (lf' := A 22 0) (bk' := A 22 0) (cr' := 0) ok1 (by rw [crS_0]; show C 46 0 0 + 1 ≤ C 46 0 0 + 1; omega) ok2 (fun p => ?_) (fun p => ?_) ?_ rfl rfl (fun p => ?_) (fun p => ?_) (fun p => ?_) (fun p => ?_) (fun p _ => rfl) (fun p => ?_) (fun t i' p a1 a2 a3 a4 a5 => ?_)
      · rw [cl]
        unfold lt
        rw [if_neg q]
        generalize ld (C 45 0 i) (lf3 (C 46 0) i) u (C 46 0 0) = y
        show upI (upI (upI (nd A i D) 20 0 8 (C 46 0 0 + 1)) 22 0 i y) 23 0 i (1 - A 23 0 i) 22 0 p = if p = i then y else A 22 0 p
        simp [nd, rd_up]
      · rw [cb, if_neg q, ← q5]
        generalize ld (C 45 0 i) (lf3 (C 46 0) i) u (C 46 0 0) = y
        show upI (upI (upI (nd A i D) 20 0 8 (C 46 0 0 + 1)) 22 0 i y) 23 0 i (1 - A 23 0 i) 23 0 p = if p = i then 1 - A 23 0 i else A 23 0 p
        simp [nd, rd_up]
      · rw [crS_0]; rfl
      · generalize ld (C 45 0 i) (lf3 (C 46 0) i) u (C 46 0 0) = y
        show upI (upI (upI (nd A i D) 20 0 8 (C 46 0 0 + 1)) 22 0 i y) 23 0 i (1 - A 23 0 i) 24 0 p = if p = D then (i : Int) else A 24 0 p
        simp [nd, rd_up]
      · generalize ld (C 45 0 i) (lf3 (C 46 0) i) u (C 46 0 0) = y
        show upI (upI (upI (nd A i D) 20 0 8 (C 46 0 0 + 1)) 22 0 i y) 23 0 i (1 - A 23 0 i) 25 0 p = if p = D then A 22 0 i else A 25 0 p
        simp [nd, rd_up]
      · generalize ld (C 45 0 i) (lf3 (C 46 0) i) u (C 46 0 0) = y
        show upI (upI (upI (nd A i D) 20 0 8 (C 46 0 0 + 1)) 22 0 i y) 23 0 i (1 - A 23 0 i) 26 0 p = if p = D then A 23 0 i else A 26 0 p
        simp [nd, rd_up]
      · generalize ld (C 45 0 i) (lf3 (C 46 0) i) u (C 46 0 0) = y
        show upI (upI (upI (nd A i D) 20 0 8 (C 46 0 0 + 1)) 22 0 i y) 23 0 i (1 - A 23 0 i) 27 0 p = if p = D then A 20 0 8 else A 27 0 p
        simp [nd, rd_up]
      · show up2 (nt C D) 46 0 (crS (C 45 0 i) (C 46 0) i u) 48 0 p = if 25 * D ≤ p ∧ p < 25 * D + 25 then C 46 0 (p - 25 * D) else C 48 0 p
        simp [nt, brI, rd_up, rd_up2]
      · by_cases z : t < 39
        · rw [mx_lo z, mx_lo z]
          simp only [nd, rd_up]
          repeat rw [if_neg (by omega)]
        · rw [mx_hi z, mx_hi z]
          simp only [nt, brI, rd_up, rd_up2]
          repeat rw [if_neg (by omega)]
theorem s_F_dbl {m i D : Nat} {v : Int} (hm : A 20 0 7 = m) (h1 : 1 ≤ m) (h6 : m ≤ 6) (hv : 0 ≤ v ∧ v ≤ 2147483646) (hi : v % (m : Int) = i) (hD : A 20 0 9 = D) (D40 : D < 40) (hL : ∀ j, j < m → 0 ≤ A 22 0 j ∧ A 22 0 j ≤ 999) (hb : ∀ j, j < m → A 23 0 j = 0 ∨ A 23 0 j = 1) (hc : 0 ≤ A 20 0 8 ∧ A 20 0 8 ≤ 1000) : X (d + 4) m_F_doByLot 0 [some (vr 20 0), some (vi v), none] [] (MM sc A J) Q ↔ Q none (MM sc (cDi A i D v) J) := by
  have il := Int.emod_lt_of_pos v (show 0 < (m : Int) by omega)
  rw [hi] at il
  have im : i < m := by omega
  have i6 : i < 6 := by omega
  have c0 : 0 ≤ v / 8 % 7 := by omega
  have c6 : v / 8 % 7 ≤ 6 := by omega
  have x9 : 0 ≤ v / 256 % 10 ∧ v / 256 % 10 ≤ 9 := by omega
  rw [b_F_doByLot_0, hm, if_neg (by omega), b_F_doByLot_8, hm, and_iff_right (by omega), tm_eq hv.1, hi, b_F_doByLot_14, ltq8 hv]
  unfold cDi
  by_cases c : v / 8 % 8 = 7
  · rw [if_pos c, if_pos c, b_F_doByLot_27, ltq3 hv, ltq10 hv, s_F_setByHand i6 hD D40 (hL i im).1 (hL i im).2 x9, ap_n, b_F_doByLot_46, b_F_doByLot_62]
  · rw [if_neg c, if_neg c, b_F_doByLot_49, ltq7 hv]
    by_cases q : ld (A 21 0 i) (A 22 0 i) (v / 8 % 7) (A 20 0 8) = -1
    · rw [if_pos q, s_F_takeOver0 i6 hD D40 c0 c6 (hL i im).1 (hL i im).2 hc.1 hc.2 q, ap_s, b_F_doByLot_61, b_F_doByLot_62]
    · rw [if_neg q, s_F_takeOver1 i6 hD D40 c0 c6 (hL i im).1 (hL i im).2 hc.1 hc.2 (hb i im) q, ap_s, b_F_doByLot_61, b_F_doByLot_62]
end LO
