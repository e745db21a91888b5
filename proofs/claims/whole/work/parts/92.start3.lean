/-! THE START: the first state, the law from its first instruction -/
def I0 : TI := fun t _ p => if t = 28 then (if p = 1 then -1 else 0) else if t = 30 then (if p = 5 then -1 else 0) else if t = 40 then (if p < 6 then -1 else 0) else if t = 42 then (if p < 4 then -1 else 0) else 0
def J0 : TI := fun t _ p => if t = 0 then (if p = 8 then 1 else 0) else if t = 39 then (if p = 14 then 1 else 0) else 0
theorem inv_0 : Inv I0 J0 := by
  refine ⟨fun r hr => ⟨?_, ?_, ?_, fun p hp => ?_⟩, fun r hr => ⟨?_, ?_, ?_, fun p hp => ?_⟩, ⟨rfl, Int.le_refl _, by decide, fun i hi => ?_⟩, ⟨rfl, ⟨⟨fun i hi => ?_, Int.le_refl _⟩, fun i hi => ?_, rfl, Int.le_refl _, by decide, Int.le_refl _, fun k hk => ?_⟩⟩, fun k hk => Or.inl ⟨rfl, rfl⟩, ⟨rfl, rfl, fun f hf => rfl, rfl, rfl⟩⟩
  · show (if r < 6 then (-1 : Int) else 0) = -1
    rw [if_pos hr]
  · show (-1 : Int) ≤ -1
    decide
  · show (-1 : Int) ≤ 40
    decide
  · have hp' : (p : Int) < -1 := hp
    omega
  · show (if r < 4 then (-1 : Int) else 0) = -1
    rw [if_pos hr]
  · show (-1 : Int) ≤ -1
    decide
  · show (-1 : Int) ≤ 60
    decide
  · have hp' : (p : Int) < -1 := hp
    omega
  · have hi' : (i : Int) < 0 := hi
    omega
  · have hi' : (i : Int) < 0 := hi
    omega
  · have hi' : (i : Int) < 0 := hi
    omega
  · have hk' : (k : Int) < 0 := hk
    omega
theorem of_F (i : Nat) : (fun b => ofld 0 b i (I0 20 i) (J0 20 i)) = fF_obj i := by
  funext b
  match b with
  | 0 => rfl
  | 1 => rfl
  | 2 => rfl
  | 3 => rfl
  | 4 => rfl
  | 5 => rfl
  | 6 => rfl
  | 7 => rfl
  | 8 => rfl
  | 9 => rfl
  | b + 10 =>
    show vi (I0 20 i (b + 10)) = (fF_obj i) (b + 10)
    simp only [fF_obj, upF]
    repeat rw [if_neg (by omega)]
    rfl
theorem of_R (i : Nat) : (fun b => ofld 1 b i (I0 28 i) (J0 28 i)) = fR_obj i := by
  funext b
  match b with
  | 0 => rfl
  | 1 => rfl
  | b + 2 =>
    show vi (I0 28 i (b + 2)) = (fR_obj i) (b + 2)
    simp only [fR_obj, upF]
    repeat rw [if_neg (by omega)]
    rfl
theorem of_S : (fun b => ofld 2 b 0 (I0 30 0) (J0 30 0)) = fS_obj := by
  funext b
  match b with
  | 0 => rfl
  | 1 => rfl
  | 2 => rfl
  | 3 => rfl
  | 4 => rfl
  | 5 => rfl
  | b + 6 =>
    show vi (I0 30 0 (b + 6)) = (fS_obj) (b + 6)
    simp only [fS_obj, upF]
    repeat rw [if_neg (by omega)]
    rfl
theorem of_C : (fun b => ofld 3 b 0 (I0 0 0) (J0 0 0)) = fC_obj := by
  funext b
  match b with
  | 0 => rfl
  | 1 => rfl
  | 2 => rfl
  | 3 => rfl
  | 4 => rfl
  | 5 => rfl
  | 6 => rfl
  | 7 => rfl
  | 8 => rfl
  | 9 => rfl
  | 10 => rfl
  | 11 => rfl
  | 12 => rfl
  | b + 13 =>
    show (.inr (.inr none) : AV) = (fC_obj) (b + 13)
    simp only [fC_obj, upF]
    repeat rw [if_neg (by omega)]
    rfl
theorem of_D : (fun b => ofld 4 b 0 (I0 39 0) (J0 39 0)) = fD_obj := by
  funext b
  match b with
  | 0 => rfl
  | 1 => rfl
  | 2 => rfl
  | 3 => rfl
  | 4 => rfl
  | 5 => rfl
  | 6 => rfl
  | 7 => rfl
  | 8 => rfl
  | 9 => rfl
  | 10 => rfl
  | 11 => rfl
  | 12 => rfl
  | 13 => rfl
  | 14 => rfl
  | 15 => rfl
  | 16 => rfl
  | 17 => rfl
  | 18 => rfl
  | 19 => rfl
  | 20 => rfl
  | 21 => rfl
  | 22 => rfl
  | 23 => rfl
  | b + 24 =>
    show (.inr (.inr none) : AV) = (fD_obj) (b + 24)
    simp only [fD_obj, upF]
    repeat rw [if_neg (by omega)]
    rfl
theorem ov4_st {Z : AM} {e : AE} : upM Z (0, 0) e = ov4 Z e (Z (1, 0)) (Z (2, 0)) (Z (4, 0)) := by
  unfold ov4
  rw [upM_id (m := Z) (k := (4, 0)) rfl, upM_id (m := Z) (k := (2, 0)) rfl, upM_id (m := Z) (k := (1, 0)) rfl]
theorem ov4_id {Z : AM} {e0 e1 e2 e4 : AE} (h0 : Z (0, 0) = e0) (h1 : Z (1, 0) = e1) (h2 : Z (2, 0) = e2) (h4 : Z (4, 0) = e4) : ov4 Z e0 e1 e2 e4 = Z := by
  unfold ov4
  rw [upM_id h4, upM_id h2, upM_id h1, upM_id h0]
theorem ov3_st {Z : AM} {e : AE} : upM Z (39, 0) e = ov3 Z e (Z (40, 0)) (Z (42, 0)) := by
  unfold ov3
  rw [upM_id (m := Z) (k := (42, 0)) rfl, upM_id (m := Z) (k := (40, 0)) rfl]
theorem ov3_id {Z : AM} {e0 e1 e2 : AE} (h0 : Z (39, 0) = e0) (h1 : Z (40, 0) = e1) (h2 : Z (42, 0) = e2) : ov3 Z e0 e1 e2 = Z := by
  unfold ov3
  rw [upM_id h2, upM_id h1, upM_id h0]
theorem s_C_init {d s : Nat} {Z : AM} {Q : Option AV → AMem → Prop} (f0 : Z (0, 0) = .inr (.inr (3, fC_obj))) (f1 : Z (1, 0) = .inr (.inl (3, 6, arF 28 0 6))) (f2 : Z (2, 0) = .inr (.inl (3, 4, arF 28 6 4))) (f4 : Z (4, 0) = .inr (.inl (2, 3, arF 20 1 3))) (g20 : ∀ i, Z (20, i) = .inr (.inr (0, fF_obj i))) (g21 : ∀ i, Z (21, i) = .inl (0, 6, fun _ => 0)) (g22 : ∀ i, Z (22, i) = .inl (0, 6, fun _ => 0)) (g23 : ∀ i, Z (23, i) = .inl (0, 6, fun _ => 0)) (g24 : ∀ i, Z (24, i) = .inl (0, 40, fun _ => 0)) (g25 : ∀ i, Z (25, i) = .inl (0, 40, fun _ => 0)) (g26 : ∀ i, Z (26, i) = .inl (0, 40, fun _ => 0)) (g27 : ∀ i, Z (27, i) = .inl (0, 40, fun _ => 0)) (g28 : ∀ i, Z (28, i) = .inr (.inr (1, fR_obj i))) (g29 : ∀ i, Z (29, i) = .inl (0, lenP i, fun _ => 0)) (h30 : Z (30, 0) = .inr (.inr (2, fS_obj))) (h31 : Z (31, 0) = .inl (0, 4, fun _ => 0)) (h32 : Z (32, 0) = .inl (0, 3, fun _ => 0)) (h5 : Z (5, 0) = .inl (0, 6, fun _ => 0)) (h11 : Z (11, 0) = .inl (0, 1000, fun _ => 0)) (h12 : Z (12, 0) = .inl (0, 28, fun _ => 0)) (h13 : Z (13, 0) = .inl (0, 64, fun _ => 0)) : X (d + 1) m_C_init 0 [some (vr 0 0), none] [] (upM Z (0, 0) (.inr (.inr (3, dfv 3))), 1, s) Q ↔ Q none (Z, 63, s + 2376) := by
  have l40 : ∀ r, r < 6 → lenP r = 40 := fun r hr => if_pos hr
  have l60 : ∀ r, lenP (6 + r) = 60 := fun r => if_neg (by omega)
  rw [ov4_st]
  refine Iff.trans (c_C_init (g20 0) h30 (g21 0) (g22 0) (g23 0) (g24 0) (g25 0) (g26 0) (g27 0) h31 h32 h5 h11 h12 h13) ?_
  refine Iff.trans (l_C_i1 (fun r hr => ⟨g28 r, by rw [g29 r, l40 r hr]⟩) 6 0 _ (by decide)) ?_
  refine Iff.trans (x_run (pc' := 135) (ls' := [some (vr 0 0), some (vi 0)]) (st' := []) (mm' := _) 2 rfl) ?_
  refine Iff.trans (l_C_i2 (fun r hr => ⟨g28 (6 + r), by rw [g29 (6 + r), l60 r]⟩) 4 0 _ (by decide)) ?_
  refine Iff.trans (x_run (pc' := 163) (ls' := [some (vr 0 0), some (vi 0)]) (st' := []) (mm' := _) 2 rfl) ?_
  refine Iff.trans (l_C_i3 (fun k hk => ⟨g20 _, g21 _, g22 _, g23 _, g24 _, g25 _, g26 _, g27 _⟩) 3 0 _ (by decide)) ?_
  rw [ov4_id f0 f1 f2 f4]
theorem s_D_init {d s : Nat} {Z : AM} {Q : Option AV → AMem → Prop} (f39 : Z (39, 0) = .inr (.inr (4, fD_obj))) (f40 : Z (40, 0) = .inl (0, 6, ngF 6)) (f42 : Z (42, 0) = .inl (0, 4, ngF 4)) (h41 : Z (41, 0) = .inl (0, 240, fun _ => 0)) (h43 : Z (43, 0) = .inl (0, 240, fun _ => 0)) (h45 : Z (45, 0) = .inl (0, 6, fun _ => 0)) (h46 : Z (46, 0) = .inl (0, 25, fun _ => 0)) (h47 : Z (47, 0) = .inl (0, 25, fun _ => 0)) (h48 : Z (48, 0) = .inl (0, 1000, fun _ => 0)) (h50 : Z (50, 0) = .inl (0, 3078, fun _ => 0)) (h51 : Z (51, 0) = .inl (1, 3, fun _ => 0)) (h56 : Z (56, 0) = .inl (0, 6, fun _ => 0)) (h58 : Z (58, 0) = .inl (0, 6, fun _ => 0)) (h59 : Z (59, 0) = .inl (0, 25, fun _ => 0)) (h60 : Z (60, 0) = .inl (1, 1000, fun _ => 0)) (h61 : Z (61, 0) = .inl (0, 6, fun _ => 0)) (h62 : Z (62, 0) = .inl (0, 64, fun _ => 0)) (h63 : Z (63, 0) = .inl (0, 2401, fun _ => 0)) : X d m_D_init 0 [some (vr 39 0), none] [] (upM Z (39, 0) (.inr (.inr (4, dfv 4))), 64, s) Q ↔ Q none (Z, 81, s + 8135) := by
  rw [ov3_st]
  refine Iff.trans (c_D_init h41 h43 h45 h46 h47 h48 h50 h51 h56 h58 h59 h60 h61 h62 h63) ?_
  refine Iff.trans (l_D_i1 6 0 _ (by decide)) ?_
  refine Iff.trans (x_run (pc' := 172) (ls' := [some (vr 39 0), some (vi 0)]) (st' := []) (mm' := _) 2 rfl) ?_
  refine Iff.trans (l_D_i2 4 0 _ (by decide)) ?_
  rw [ov3_id f39 f40 f42]
theorem start_run {d : Nat} {Z : AM} {Q : Option AV → AMem → Prop} (f0 : Z (0, 0) = .inr (.inr (3, fC_obj))) (f1 : Z (1, 0) = .inr (.inl (3, 6, arF 28 0 6))) (f2 : Z (2, 0) = .inr (.inl (3, 4, arF 28 6 4))) (f4 : Z (4, 0) = .inr (.inl (2, 3, arF 20 1 3))) (g20 : ∀ i, Z (20, i) = .inr (.inr (0, fF_obj i))) (g21 : ∀ i, Z (21, i) = .inl (0, 6, fun _ => 0)) (g22 : ∀ i, Z (22, i) = .inl (0, 6, fun _ => 0)) (g23 : ∀ i, Z (23, i) = .inl (0, 6, fun _ => 0)) (g24 : ∀ i, Z (24, i) = .inl (0, 40, fun _ => 0)) (g25 : ∀ i, Z (25, i) = .inl (0, 40, fun _ => 0)) (g26 : ∀ i, Z (26, i) = .inl (0, 40, fun _ => 0)) (g27 : ∀ i, Z (27, i) = .inl (0, 40, fun _ => 0)) (g28 : ∀ i, Z (28, i) = .inr (.inr (1, fR_obj i))) (g29 : ∀ i, Z (29, i) = .inl (0, lenP i, fun _ => 0)) (h30 : Z (30, 0) = .inr (.inr (2, fS_obj))) (h31 : Z (31, 0) = .inl (0, 4, fun _ => 0)) (h32 : Z (32, 0) = .inl (0, 3, fun _ => 0)) (h5 : Z (5, 0) = .inl (0, 6, fun _ => 0)) (h11 : Z (11, 0) = .inl (0, 1000, fun _ => 0)) (h12 : Z (12, 0) = .inl (0, 28, fun _ => 0)) (h13 : Z (13, 0) = .inl (0, 64, fun _ => 0)) (f39 : Z (39, 0) = .inr (.inr (4, fD_obj))) (f40 : Z (40, 0) = .inl (0, 6, ngF 6)) (f42 : Z (42, 0) = .inl (0, 4, ngF 4)) (h41 : Z (41, 0) = .inl (0, 240, fun _ => 0)) (h43 : Z (43, 0) = .inl (0, 240, fun _ => 0)) (h45 : Z (45, 0) = .inl (0, 6, fun _ => 0)) (h46 : Z (46, 0) = .inl (0, 25, fun _ => 0)) (h47 : Z (47, 0) = .inl (0, 25, fun _ => 0)) (h48 : Z (48, 0) = .inl (0, 1000, fun _ => 0)) (h50 : Z (50, 0) = .inl (0, 3078, fun _ => 0)) (h51 : Z (51, 0) = .inl (1, 3, fun _ => 0)) (h56 : Z (56, 0) = .inl (0, 6, fun _ => 0)) (h58 : Z (58, 0) = .inl (0, 6, fun _ => 0)) (h59 : Z (59, 0) = .inl (0, 25, fun _ => 0)) (h60 : Z (60, 0) = .inl (1, 1000, fun _ => 0)) (h61 : Z (61, 0) = .inl (0, 6, fun _ => 0)) (h62 : Z (62, 0) = .inl (0, 64, fun _ => 0)) (h63 : Z (63, 0) = .inl (0, 2401, fun _ => 0)) (hX : X (d + 2) m_W_law 18 [some (vr 99 0), some (vr 0 0), some (vr 39 0), some (vi 0)] [] (Z, 81, 10548) Q) : X (d + 2) m_W_law 0 [some (vr 99 0), none, none, none] [] (Z, 0, 0) Q := by
  refine Iff.mpr (xn_new (c := 0) (t := 0) (i := 0) rfl rfl rfl rfl) ?_
  refine Iff.mpr (x_run (pc' := 4) (ls' := [some (vr 99 0), none, none, none]) (st' := [vr 0 0, vr 0 0]) (mm' := (upM Z (0, 0) (.inr (.inr (3, dfv 3))), 1, 13)) 1 rfl) ?_
  refine Iff.mpr (x_call (M' := m_C_init) (av := [vr 0 0]) (rest := [vr 0 0]) (pc' := 7) rfl rfl) ?_
  refine Iff.mpr (s_C_init f0 f1 f2 f4 g20 g21 g22 g23 g24 g25 g26 g27 g28 g29 h30 h31 h32 h5 h11 h12 h13) ?_
  rw [ap_n]
  refine Iff.mpr (x_run (pc' := 8) (ls' := [some (vr 99 0), some (vr 0 0), none, none]) (st' := []) (mm' := (Z, 63, 2389)) 1 rfl) ?_
  refine Iff.mpr (xn_new (c := 63) (t := 39) (i := 0) rfl rfl rfl rfl) ?_
  refine Iff.mpr (x_run (pc' := 12) (ls' := [some (vr 99 0), some (vr 0 0), none, none]) (st' := [vr 39 0, vr 39 0]) (mm' := (upM Z (39, 0) (.inr (.inr (4, dfv 4))), 64, 2413)) 1 rfl) ?_
  refine Iff.mpr (x_call (M' := m_D_init) (av := [vr 39 0]) (rest := [vr 39 0]) (pc' := 15) rfl rfl) ?_
  refine Iff.mpr (s_D_init f39 f40 f42 h41 h43 h45 h46 h47 h48 h50 h51 h56 h58 h59 h60 h61 h62 h63) ?_
  rw [ap_n]
  exact Iff.mpr (x_run (pc' := 18) (ls' := [some (vr 99 0), some (vr 0 0), some (vr 39 0), some (vi 0)]) (st' := []) (mm' := (Z, 81, 10548)) 3 rfl) hX
theorem ar_1 : (fun j => if j < 6 then some ((28 : Nat), j) else none) = arF 28 0 6 := by
  funext j
  show (if j < 6 then some (28, j) else none) = if j < 6 then some (28, 0 + j) else none
  rw [Nat.zero_add]
theorem pure_law : PureLaw := by
  intro L xs hL hx
  have hX : X 800 m_W_law 18 [some (vr 99 0), some (vr 0 0), some (vr 39 0), some (vi 0)] [] (MM (L, xs) I0 J0) (fun r mm => r = some (vi 1) ∧ mm.2.1 ≤ 600000 ∧ mm.2.2 ≤ 7302250) := law_loop (d := 779) (sc := (L, xs)) hL (fun I2 J2 => ⟨rfl, by show 81 ≤ 600000; decide, by show 10548 ≤ 7302250; decide⟩) 600 0 I0 J0 (by show L ≤ 0 + 6 * 600; omega) (by decide) inv_0
  obtain ⟨n, r, mm', hgo, hr, h1, h2⟩ := start_run (d := 798) (Z := (MM (L, xs) I0 J0).1) (Q := fun r mm => r = some (vi 1) ∧ mm.2.1 ≤ 600000 ∧ mm.2.2 ≤ 7302250) (congrArg (fun f : Nat → AV => (.inr (.inr (3, f)) : AE)) of_C) (congrArg (fun f : Nat → Option AK => (.inr (.inl (3, 6, f)) : AE)) ar_1) rfl rfl (fun i => congrArg (fun f : Nat → AV => (.inr (.inr (0, f)) : AE)) (of_F i)) (fun _ => rfl) (fun _ => rfl) (fun _ => rfl) (fun _ => rfl) (fun _ => rfl) (fun _ => rfl) (fun _ => rfl) (fun i => congrArg (fun f : Nat → AV => (.inr (.inr (1, f)) : AE)) (of_R i)) (fun _ => rfl) (congrArg (fun f : Nat → AV => (.inr (.inr (2, f)) : AE)) of_S) rfl rfl rfl rfl rfl rfl (congrArg (fun f : Nat → AV => (.inr (.inr (4, f)) : AE)) of_D) rfl rfl rfl rfl rfl rfl rfl rfl rfl rfl rfl rfl rfl rfl rfl rfl rfl hX
  subst hr
  exact ⟨(MM (L, xs) I0 J0).1, n, mm', rfl, hgo, h1, h2⟩
