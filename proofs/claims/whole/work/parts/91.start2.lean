/-! THE START: the constructors' loops, the law's first steps -/
theorem blN {c : Nat} (h : c ≤ 81) : Nat.ble c NTOT = true := Nat.ble_eq_true_of_le h
theorem nm_rows : ∀ r : _root_.Fin 10, nm (19 + 2 * r.val) = (28, r.val) ∧ nm (19 + 2 * r.val + 1) = (29, r.val) := by decide
theorem nm_kept : ∀ k : _root_.Fin 3, nm (39 + 8 * k.val) = (20, 1 + k.val) ∧ ∀ j : _root_.Fin 7, nm (39 + 8 * k.val + 1 + j.val) = (21 + j.val, 1 + k.val) := by decide
section ST
variable {d : Nat} {Z : AM} {Q : Option AV → AMem → Prop} {E0 E1 E2 E4 : AE}
theorem arF_28 {r : Nat} : upF (arF 28 0 r) r (some (28, r)) = arF 28 0 (r + 1) := by rw [← arF_s, Nat.zero_add]
theorem l_C_i1 (hR : ∀ r, r < 6 → Z (28, r) = .inr (.inr (1, fR_obj r)) ∧ Z (29, r) = .inl (0, 40, fun _ => 0)) : ∀ (m r s : Nat), r + m = 6 → (X (d + 1) m_C_init 106 [some (vr 0 0), some (vi (r : Int))] [] (ov4 Z (.inr (.inr (3, fC_obj))) (.inr (.inl (3, 6, arF 28 0 r))) E2 E4, 19 + 2 * r, s) Q ↔ X (d + 1) m_C_init 133 [some (vr 0 0), some (vi 6)] [] (ov4 Z (.inr (.inr (3, fC_obj))) (.inr (.inl (3, 6, arF 28 0 6))) E2 E4, 31, s + 42 * m) Q) := by
  have br : ∀ (r : Nat) (mm : AMem), X (d + 1) m_C_init 106 [some (vr 0 0), some (vi (r : Int))] [] mm Q ↔ if (6 : Int) ≤ (r : Int) then X (d + 1) m_C_init 133 [some (vr 0 0), some (vi (r : Int))] [] mm Q else X (d + 1) m_C_init 112 [some (vr 0 0), some (vi (r : Int))] [] mm Q := fun r mm => Iff.trans (x_run (pc' := 109) (ls' := [some (vr 0 0), some (vi (r : Int))]) (st' := [vi 6, vi (r : Int)]) (mm' := mm) 2 rfl) (x_br rfl rfl)
  intro m
  induction m with
  | zero =>
    intro r s e
    have e1 : r = 6 := by omega
    subst e1
    rw [br, if_pos (by omega)]
    exact Iff.rfl
  | succ m ih =>
    intro r s e
    obtain ⟨hz, hz2⟩ := hR r (by omega)
    have n1 := (nm_rows ⟨r, by omega⟩).1
    have n2 := (nm_rows ⟨r, by omega⟩).2
    have es : s + 2 + 40 + 42 * m = s + 42 * (m + 1) := by omega
    rw [br, if_neg (by omega)]
    refine Iff.trans (x_run (pc' := 113) (ls' := [some (vr 0 0), some (vi (r : Int))]) (st' := [vr 0 0]) (mm' := (ov4 Z (.inr (.inr (3, fC_obj))) (.inr (.inl (3, 6, arF 28 0 r))) E2 E4, 19 + 2 * r, s)) 1 rfl) ?_
    refine Iff.trans (xn_get (t := 0) (i := 0) (f := fC_obj) (v := vr 1 0) rfl rfl rfl) ?_
    refine Iff.trans (x_run (pc' := 117) (ls' := [some (vr 0 0), some (vi (r : Int))]) (st' := [vi (r : Int), vr 1 0]) (mm' := (ov4 Z (.inr (.inr (3, fC_obj))) (.inr (.inl (3, 6, arF 28 0 r))) E2 E4, 19 + 2 * r, s)) 1 rfl) ?_
    refine Iff.trans (xn_new (t := 28) (i := r) rfl (blN (by omega)) rfl n1) ?_
    refine Iff.trans (x_run (pc' := 123) (ls' := [some (vr 0 0), some (vi (r : Int))]) (st' := [vi 40, vr 28 r, vr 28 r, vi (r : Int), vr 1 0]) (mm' := (upM (ov4 Z (.inr (.inr (3, fC_obj))) (.inr (.inl (3, 6, arF 28 0 r))) E2 E4) (28, r) (.inr (.inr (1, dfv 1))), 19 + 2 * r + 1, s + clK 1)) 2 rfl) ?_
    refine Iff.trans (x_call (M' := m_R_init) (av := [vr 28 r, vi 40]) (rest := [vr 28 r, vi (r : Int), vr 1 0]) (pc' := 126) rfl rfl) ?_
    refine Iff.trans (s_R_init (n := 40) (m := ov4 Z (.inr (.inr (3, fC_obj))) (.inr (.inl (3, 6, arF 28 0 r))) E2 E4) hz hz2 n2 (blN (by omega)) (by decide)) ?_
    rw [ap_n]
    refine Iff.trans (xn_aast (t := 1) (i := 0) (t2 := 28) (i2 := r) (p := r) (kd := 3) (n := 6) (cl := 1) (f := arF 28 0 r) (g := fR_obj r) rfl rfl hz rfl rfl (by omega)) ?_
    rw [ov4_1, arF_28]
    refine Iff.trans (x_run (pc' := 106) (ls' := [some (vr 0 0), some (vi (w32 ((r : Int) + 1)))]) (st' := []) (mm' := (ov4 Z (.inr (.inr (3, fC_obj))) (.inr (.inl (3, 6, arF 28 0 (r + 1)))) E2 E4, 19 + 2 * r + 1 + 1, s + clK 1 + 40)) 2 rfl) ?_
    rw [wsuc (by omega)]
    have ih' := ih (r + 1) (s + 2 + 40) (by omega)
    rw [es] at ih'
    exact ih'
theorem l_C_i2 (hR : ∀ r, r < 4 → Z (28, 6 + r) = .inr (.inr (1, fR_obj (6 + r))) ∧ Z (29, 6 + r) = .inl (0, 60, fun _ => 0)) : ∀ (m r s : Nat), r + m = 4 → (X (d + 1) m_C_init 135 [some (vr 0 0), some (vi (r : Int))] [] (ov4 Z (.inr (.inr (3, fC_obj))) E1 (.inr (.inl (3, 4, arF 28 6 r))) E4, 31 + 2 * r, s) Q ↔ X (d + 1) m_C_init 161 [some (vr 0 0), some (vi 4)] [] (ov4 Z (.inr (.inr (3, fC_obj))) E1 (.inr (.inl (3, 4, arF 28 6 4))) E4, 39, s + 62 * m) Q) := by
  have br : ∀ (r : Nat) (mm : AMem), X (d + 1) m_C_init 135 [some (vr 0 0), some (vi (r : Int))] [] mm Q ↔ if (4 : Int) ≤ (r : Int) then X (d + 1) m_C_init 161 [some (vr 0 0), some (vi (r : Int))] [] mm Q else X (d + 1) m_C_init 140 [some (vr 0 0), some (vi (r : Int))] [] mm Q := fun r mm => Iff.trans (x_run (pc' := 137) (ls' := [some (vr 0 0), some (vi (r : Int))]) (st' := [vi 4, vi (r : Int)]) (mm' := mm) 2 rfl) (x_br rfl rfl)
  intro m
  induction m with
  | zero =>
    intro r s e
    have e1 : r = 4 := by omega
    subst e1
    rw [br, if_pos (by omega)]
    exact Iff.rfl
  | succ m ih =>
    intro r s e
    obtain ⟨hz, hz2⟩ := hR r (by omega)
    have n1 := (nm_rows ⟨6 + r, by omega⟩).1
    have n2 := (nm_rows ⟨6 + r, by omega⟩).2
    have n1' : nm (31 + 2 * r) = (28, 6 + r) := by rw [← n1]; congr 1; show 31 + 2 * r = 19 + 2 * (6 + r); omega
    have n2' : nm (31 + 2 * r + 1) = (29, 6 + r) := by rw [← n2]; congr 1; show 31 + 2 * r + 1 = 19 + 2 * (6 + r) + 1; omega
    have es : s + 2 + 60 + 62 * m = s + 62 * (m + 1) := by omega
    rw [br, if_neg (by omega)]
    refine Iff.trans (x_run (pc' := 141) (ls' := [some (vr 0 0), some (vi (r : Int))]) (st' := [vr 0 0]) (mm' := (ov4 Z (.inr (.inr (3, fC_obj))) E1 (.inr (.inl (3, 4, arF 28 6 r))) E4, 31 + 2 * r, s)) 1 rfl) ?_
    refine Iff.trans (xn_get (t := 0) (i := 0) (f := fC_obj) (v := vr 2 0) rfl rfl rfl) ?_
    refine Iff.trans (x_run (pc' := 145) (ls' := [some (vr 0 0), some (vi (r : Int))]) (st' := [vi (r : Int), vr 2 0]) (mm' := (ov4 Z (.inr (.inr (3, fC_obj))) E1 (.inr (.inl (3, 4, arF 28 6 r))) E4, 31 + 2 * r, s)) 1 rfl) ?_
    refine Iff.trans (xn_new (t := 28) (i := 6 + r) rfl (blN (by omega)) rfl n1') ?_
    refine Iff.trans (x_run (pc' := 151) (ls' := [some (vr 0 0), some (vi (r : Int))]) (st' := [vi 60, vr 28 (6 + r), vr 28 (6 + r), vi (r : Int), vr 2 0]) (mm' := (upM (ov4 Z (.inr (.inr (3, fC_obj))) E1 (.inr (.inl (3, 4, arF 28 6 r))) E4) (28, 6 + r) (.inr (.inr (1, dfv 1))), 31 + 2 * r + 1, s + clK 1)) 2 rfl) ?_
    refine Iff.trans (x_call (M' := m_R_init) (av := [vr 28 (6 + r), vi 60]) (rest := [vr 28 (6 + r), vi (r : Int), vr 2 0]) (pc' := 154) rfl rfl) ?_
    refine Iff.trans (s_R_init (n := 60) (m := ov4 Z (.inr (.inr (3, fC_obj))) E1 (.inr (.inl (3, 4, arF 28 6 r))) E4) hz hz2 n2' (blN (by omega)) (by decide)) ?_
    rw [ap_n]
    refine Iff.trans (xn_aast (t := 2) (i := 0) (t2 := 28) (i2 := 6 + r) (p := r) (kd := 3) (n := 4) (cl := 1) (f := arF 28 6 r) (g := fR_obj (6 + r)) rfl rfl hz rfl rfl (by omega)) ?_
    rw [ov4_2, arF_s]
    refine Iff.trans (x_run (pc' := 135) (ls' := [some (vr 0 0), some (vi (w32 ((r : Int) + 1)))]) (st' := []) (mm' := (ov4 Z (.inr (.inr (3, fC_obj))) E1 (.inr (.inl (3, 4, arF 28 6 (r + 1)))) E4, 31 + 2 * r + 1 + 1, s + clK 1 + 60)) 2 rfl) ?_
    rw [wsuc (by omega)]
    have ih' := ih (r + 1) (s + 2 + 60) (by omega)
    rw [es] at ih'
    exact ih'
theorem l_C_i3 (hF : ∀ k, k < 3 → Z (20, 1 + k) = .inr (.inr (0, fF_obj (1 + k))) ∧ Z (21, 1 + k) = .inl (0, 6, fun _ => 0) ∧ Z (22, 1 + k) = .inl (0, 6, fun _ => 0) ∧ Z (23, 1 + k) = .inl (0, 6, fun _ => 0) ∧ Z (24, 1 + k) = .inl (0, 40, fun _ => 0) ∧ Z (25, 1 + k) = .inl (0, 40, fun _ => 0) ∧ Z (26, 1 + k) = .inl (0, 40, fun _ => 0) ∧ Z (27, 1 + k) = .inl (0, 40, fun _ => 0)) : ∀ (m k s : Nat), k + m = 3 → (X (d + 1) m_C_init 163 [some (vr 0 0), some (vi (k : Int))] [] (ov4 Z (.inr (.inr (3, fC_obj))) E1 E2 (.inr (.inl (2, 3, arF 20 1 k))), 39 + 8 * k, s) Q ↔ Q none (ov4 Z (.inr (.inr (3, fC_obj))) E1 E2 (.inr (.inl (2, 3, arF 20 1 3))), 63, s + 188 * m)) := by
  have br : ∀ (r : Nat) (mm : AMem), X (d + 1) m_C_init 163 [some (vr 0 0), some (vi (r : Int))] [] mm Q ↔ if (3 : Int) ≤ (r : Int) then X (d + 1) m_C_init 187 [some (vr 0 0), some (vi (r : Int))] [] mm Q else X (d + 1) m_C_init 168 [some (vr 0 0), some (vi (r : Int))] [] mm Q := fun r mm => Iff.trans (x_run (pc' := 165) (ls' := [some (vr 0 0), some (vi (r : Int))]) (st' := [vi 3, vi (r : Int)]) (mm' := mm) 2 rfl) (x_br rfl rfl)
  intro m
  induction m with
  | zero =>
    intro k s e
    have e1 : k = 3 := by omega
    subst e1
    rw [br, if_pos (by omega)]
    exact x_ret rfl rfl
  | succ m ih =>
    intro k s e
    obtain ⟨hz, z1, z2, z3, z4, z5, z6, z7⟩ := hF k (by omega)
    have n1 := (nm_kept ⟨k, by omega⟩).1
    have n2 := (nm_kept ⟨k, by omega⟩).2
    have es : s + 10 + 6 + 6 + 6 + 40 + 40 + 40 + 40 + 188 * m = s + 188 * (m + 1) := by omega
    rw [br, if_neg (by omega)]
    refine Iff.trans (x_run (pc' := 169) (ls' := [some (vr 0 0), some (vi (k : Int))]) (st' := [vr 0 0]) (mm' := (ov4 Z (.inr (.inr (3, fC_obj))) E1 E2 (.inr (.inl (2, 3, arF 20 1 k))), 39 + 8 * k, s)) 1 rfl) ?_
    refine Iff.trans (xn_get (t := 0) (i := 0) (f := fC_obj) (v := vr 4 0) rfl rfl rfl) ?_
    refine Iff.trans (x_run (pc' := 173) (ls' := [some (vr 0 0), some (vi (k : Int))]) (st' := [vi (k : Int), vr 4 0]) (mm' := (ov4 Z (.inr (.inr (3, fC_obj))) E1 E2 (.inr (.inl (2, 3, arF 20 1 k))), 39 + 8 * k, s)) 1 rfl) ?_
    refine Iff.trans (xn_new (t := 20) (i := 1 + k) rfl (blN (by omega)) rfl n1) ?_
    refine Iff.trans (x_run (pc' := 177) (ls' := [some (vr 0 0), some (vi (k : Int))]) (st' := [vr 20 (1 + k), vr 20 (1 + k), vi (k : Int), vr 4 0]) (mm' := (upM (ov4 Z (.inr (.inr (3, fC_obj))) E1 E2 (.inr (.inl (2, 3, arF 20 1 k)))) (20, 1 + k) (.inr (.inr (0, dfv 0))), 39 + 8 * k + 1, s + clK 0)) 1 rfl) ?_
    refine Iff.trans (x_call (M' := m_F_init) (av := [vr 20 (1 + k)]) (rest := [vr 20 (1 + k), vi (k : Int), vr 4 0]) (pc' := 180) rfl rfl) ?_
    refine Iff.trans (s_F_init (i := 1 + k) (m := ov4 Z (.inr (.inr (3, fC_obj))) E1 E2 (.inr (.inl (2, 3, arF 20 1 k)))) hz z1 z2 z3 z4 z5 z6 z7 (fun j hj => ⟨n2 ⟨j, hj⟩, trivial⟩) (fun j hj => blN (by omega))) ?_
    rw [ap_n]
    refine Iff.trans (xn_aast (t := 4) (i := 0) (t2 := 20) (i2 := 1 + k) (p := k) (kd := 2) (n := 3) (cl := 0) (f := arF 20 1 k) (g := fF_obj (1 + k)) rfl rfl hz rfl rfl (by omega)) ?_
    rw [ov4_4, arF_s]
    refine Iff.trans (x_run (pc' := 163) (ls' := [some (vr 0 0), some (vi (w32 ((k : Int) + 1)))]) (st' := []) (mm' := (ov4 Z (.inr (.inr (3, fC_obj))) E1 E2 (.inr (.inl (2, 3, arF 20 1 (k + 1)))), 39 + 8 * k + 1 + 7, s + clK 0 + 6 + 6 + 6 + 40 + 40 + 40 + 40)) 2 rfl) ?_
    rw [wsuc (by omega)]
    have ih' := ih (k + 1) (s + 10 + 6 + 6 + 6 + 40 + 40 + 40 + 40) (by omega)
    rw [es] at ih'
    exact ih'
theorem l_D_i1 : ∀ (m r s : Nat), r + m = 6 → (X d m_D_init 151 [some (vr 39 0), some (vi (r : Int))] [] (ov3 Z (.inr (.inr (4, fD_obj))) (.inl (0, 6, ngF r)) E2, 81, s) Q ↔ X d m_D_init 170 [some (vr 39 0), some (vi 6)] [] (ov3 Z (.inr (.inr (4, fD_obj))) (.inl (0, 6, ngF 6)) E2, 81, s) Q) := by
  have br : ∀ (r : Nat) (mm : AMem), X d m_D_init 151 [some (vr 39 0), some (vi (r : Int))] [] mm Q ↔ if (6 : Int) ≤ (r : Int) then X d m_D_init 170 [some (vr 39 0), some (vi (r : Int))] [] mm Q else X d m_D_init 157 [some (vr 39 0), some (vi (r : Int))] [] mm Q := fun r mm => Iff.trans (x_run (pc' := 154) (ls' := [some (vr 39 0), some (vi (r : Int))]) (st' := [vi 6, vi (r : Int)]) (mm' := mm) 2 rfl) (x_br rfl rfl)
  intro m
  induction m with
  | zero =>
    intro r s e
    have e1 : r = 6 := by omega
    subst e1
    rw [br, if_pos (by omega)]
    exact Iff.rfl
  | succ m ih =>
    intro r s e
    rw [br, if_neg (by omega)]
    refine Iff.trans (x_run (pc' := 158) (ls' := [some (vr 39 0), some (vi (r : Int))]) (st' := [vr 39 0]) (mm' := (ov3 Z (.inr (.inr (4, fD_obj))) (.inl (0, 6, ngF r)) E2, 81, s)) 1 rfl) ?_
    refine Iff.trans (xn_get (t := 39) (i := 0) (f := fD_obj) (v := vr 40 0) rfl rfl rfl) ?_
    refine Iff.trans (x_run (pc' := 163) (ls' := [some (vr 39 0), some (vi (r : Int))]) (st' := [vi (-1), vi (r : Int), vr 40 0]) (mm' := (ov3 Z (.inr (.inr (4, fD_obj))) (.inl (0, 6, ngF r)) E2, 81, s)) 2 rfl) ?_
    refine Iff.trans (xn_iast (t := 40) (i := 0) (p := r) (n := 6) (f := ngF r) rfl rfl (by omega)) ?_
    rw [ov3_1, ngF_s]
    refine Iff.trans (x_run (pc' := 151) (ls' := [some (vr 39 0), some (vi (w32 ((r : Int) + 1)))]) (st' := []) (mm' := (ov3 Z (.inr (.inr (4, fD_obj))) (.inl (0, 6, ngF (r + 1))) E2, 81, s)) 2 rfl) ?_
    rw [wsuc (by omega)]
    exact ih (r + 1) s (by omega)
theorem l_D_i2 : ∀ (m r s : Nat), r + m = 4 → (X d m_D_init 172 [some (vr 39 0), some (vi (r : Int))] [] (ov3 Z (.inr (.inr (4, fD_obj))) E1 (.inl (0, 4, ngF r)), 81, s) Q ↔ Q none (ov3 Z (.inr (.inr (4, fD_obj))) E1 (.inl (0, 4, ngF 4)), 81, s)) := by
  have br : ∀ (r : Nat) (mm : AMem), X d m_D_init 172 [some (vr 39 0), some (vi (r : Int))] [] mm Q ↔ if (4 : Int) ≤ (r : Int) then X d m_D_init 190 [some (vr 39 0), some (vi (r : Int))] [] mm Q else X d m_D_init 177 [some (vr 39 0), some (vi (r : Int))] [] mm Q := fun r mm => Iff.trans (x_run (pc' := 174) (ls' := [some (vr 39 0), some (vi (r : Int))]) (st' := [vi 4, vi (r : Int)]) (mm' := mm) 2 rfl) (x_br rfl rfl)
  intro m
  induction m with
  | zero =>
    intro r s e
    have e1 : r = 4 := by omega
    subst e1
    rw [br, if_pos (by omega)]
    exact x_ret rfl rfl
  | succ m ih =>
    intro r s e
    rw [br, if_neg (by omega)]
    refine Iff.trans (x_run (pc' := 178) (ls' := [some (vr 39 0), some (vi (r : Int))]) (st' := [vr 39 0]) (mm' := (ov3 Z (.inr (.inr (4, fD_obj))) E1 (.inl (0, 4, ngF r)), 81, s)) 1 rfl) ?_
    refine Iff.trans (xn_get (t := 39) (i := 0) (f := fD_obj) (v := vr 42 0) rfl rfl rfl) ?_
    refine Iff.trans (x_run (pc' := 183) (ls' := [some (vr 39 0), some (vi (r : Int))]) (st' := [vi (-1), vi (r : Int), vr 42 0]) (mm' := (ov3 Z (.inr (.inr (4, fD_obj))) E1 (.inl (0, 4, ngF r)), 81, s)) 2 rfl) ?_
    refine Iff.trans (xn_iast (t := 42) (i := 0) (p := r) (n := 4) (f := ngF r) rfl rfl (by omega)) ?_
    rw [ov3_2, ngF_s]
    refine Iff.trans (x_run (pc' := 172) (ls' := [some (vr 39 0), some (vi (w32 ((r : Int) + 1)))]) (st' := []) (mm' := (ov3 Z (.inr (.inr (4, fD_obj))) E1 (.inl (0, 4, ngF (r + 1))), 81, s)) 2 rfl) ?_
    rw [wsuc (by omega)]
    exact ih (r + 1) s (by omega)
end ST
