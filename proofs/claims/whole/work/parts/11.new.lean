/-! STEPS THAT MAKE CELLS, the library's own, what is left -/
theorem insB : ((List.range 5).all fun a => eqW (plIns a).1 (.instantiable (clR a) (clK a)) && eqW (plIns a).2 (.initialized (clR a))) = true := by decide +kernel
theorem objB : (eqW plObj.1 (.instanceMethod objectInit)) = true := by decide +kernel
theorem objC : lw_tbl[plObj.2]? = some (.code objectInit ⟨#[0xb1]⟩ 1 none) := rfl
theorem cpyB : (eqW plCpy.1 (.native arraycopyName) && eqW plCpy.2.1 (.static arraycopyName) && eqW plCpy.2.2 (.initialized "java/lang/System")) = true := by decide +kernel
theorem arrB : (eqW plArr.1 (.arrayClass .int) && eqW plArr.2.1 (.arrayClass .boolean)) = true := by decide +kernel
theorem maxB : (eqW pl_max.1 (.static Lib.Math.max.name) && eqW pl_max.2.1 (.initialized "java/lang/Math") && eqW pl_min.1 (.static Lib.Math.min.name) && eqW pl_min.2.1 (.initialized "java/lang/Math")) = true := by decide +kernel
set_option maxRecDepth 20000 in
theorem maxC : lw_tbl[pl_max.2.2]? = some (.code Lib.Math.max.name Lib.Math.max.code 2 (some .int)) := rfl
set_option maxRecDepth 20000 in
theorem minC : lw_tbl[pl_min.2.2]? = some (.code Lib.Math.min.name Lib.Math.min.code 2 (some .int)) := rfl
theorem w_pl {w : Cond} {pl : Nat} {args : Array Value} {s : State} (hg : ∀ w ∈ gw, w.before args s = true) (h : lw_tbl[pl]? = some w) (hw : goodWord w = true) : w.before args s = true :=
  hg w (List.mem_filter.mpr ⟨List.mem_of_getElem? h, hw⟩)
theorem dfv_cv (a b : Nat) (ad ad' : AK → Nat) : cv ad (dfv a b) = cv ad' (dfv a b) := by
  unfold dfv
  split <;> rfl
theorem dfv_ok (N a b : Nat) : okv N false (dfv a b) := by
  unfold dfv
  split
  · exact i32_0
  · exact i64_0
  · trivial
theorem dfv_val {a b : Nat} (ha : a < 5) (hb : b < clK a) (ad : AK → Nat) : defaultValue (clTy a b) = cv ad (dfv a b) := by
  have h1 := List.all_eq_true.mp tyBB a (List.mem_range.mpr ha)
  have h2 := List.all_eq_true.mp h1 b (List.mem_range.mpr hb)
  unfold dfv clF
  generalize clTy a b = t at h2
  cases t <;> first | rfl | (simp [tyB] at h2; done)
theorem okM_push {mm : AMem} {e : AE} {S : Nat} (h : okM mm) (hN : mm.2.1 < NTOT) (he : okE (mm.2.1 + 1) e) : okM (upM mm.1 (nm mm.2.1) e, mm.2.1 + 1, S) := by
  refine ⟨hN, fun i hi => ?_⟩
  show okE (mm.2.1 + 1) (upM mm.1 (nm mm.2.1) e (nm i))
  unfold upM
  split
  · exact he
  · next hne =>
    have : i < mm.2.1 := by
      have hi2 : i < mm.2.1 + 1 := hi
      rcases Nat.lt_or_ge i mm.2.1 with q | q
      · exact q
      · have : i = mm.2.1 := by omega
        exact absurd (by rw [this]) hne
    exact okE_mono (Nat.le_succ _) (h.2 i this)
section NW
variable {p : Program} {l : Launch} {e : Env} {R : Room} {s : State} {m : MethodId} {args : Array Value} {below : List Frame} {meth : Method} {c : Code} {Q : State → Prop} {D : va_G} {dA : Nat → ClassId} {A : Nat → Prop} {sg : Bool} {nL N0 S0 M : Nat} {ad : AK → Nat} {pc : Nat} {ls : ALs} {st : List AV} {mm : AMem} {nxt : Nat × ALs × List AV × AMem}
/-- a cell is made -/
theorem Rl.push {H H1 : Heap} {locs : List Loc} {lsc : Array Slot} {cells slots : Nat} {q S w : Nat} {e1 : AE} {st' : List AV} (h : Rl s D dA A sg nL N0 S0 ad H locs lsc cells slots ls st mm) (hN : mm.2.1 < NTOT) (he : okE (mm.2.1 + 1) e1) (hs : ∀ v ∈ st', okv (mm.2.1 + 1) sg v) (hS2 : S = mm.2.2 + w)
    (hP : va_P D vwCl (wl dA ad mm ++ [(q, ce dA (adU ad (nm mm.2.1) q) e1)]) H1) (hD : va_D A (wl dA ad mm ++ [(q, ce dA (adU ad (nm mm.2.1) q) e1)])) (hS : va_S A s.heap H1 locs) : Rl s D dA A sg nL N0 S0 (adU ad (nm mm.2.1) q) H1 locs lsc (cells + 1) (slots + w) ls st' (upM mm.1 (nm mm.2.1) e1, mm.2.1 + 1, S) := by
  rw [← wl_push (S := S) e1 h.2.2.2.1 hN] at hP hD
  obtain ⟨-, -, -, hM, hL, okl, -, hc, hsl, hscr⟩ := h
  refine ⟨hP, hD, hS, okM_push hM hN he, ⟨hL.1, hL.2.1, hL.2.2.1, fun k v hv => ?_⟩, fun k v hv => okv_mono (Nat.le_succ _) (okl k v hv), hs, by show cells + 1 + N0 = mm.2.1 + 1; omega, by show slots + w + S0 = S; omega, fun hsg => ?_⟩
  · rw [hL.2.2.2 k v hv]
    rw [cv_congr2 (fun j hj => adU_old hN hj) (adU_99 hN) (okl k v hv)]
  · obtain ⟨b, L, xs, h1, h2, h3, h4, h5, h6⟩ := hscr hsg
    refine ⟨b, L, xs, h1, h2, h3, (adU_99 hN).trans h4, h5, ?_⟩
    show upM mm.1 (nm mm.2.1) e1 (99, 0) = _
    have hne : (99, 0) ≠ nm mm.2.1 := fun q => nm_99 hN q.symm
    simp [upM, hne, h6]
theorem map_cv {N : Nat} {ad' : AK → Nat} {r : List AV} (hag : ∀ j, j < N → ad' (nm j) = ad (nm j)) (h99 : ad' (99, 0) = ad (99, 0)) (h : ∀ v ∈ r, okv N sg v) : r.map (cv ad') = r.map (cv ad) := List.map_congr_left (fun v hv => cv_congr2 hag h99 (h v hv))
theorem sn_new (C : Cx p s m args meth c D dA A M) {i a pl : Nat} (hd : decode (minf M).2.1 pc = .ok (.new i, 3)) (ha : a < 5) (hw : eqW pl (.classLink (minf M).1.cls i (clR a)) = true) (hR : nxt.2.2.2.2.1 ≤ R.cells + N0 ∧ nxt.2.2.2.2.2 ≤ R.slots + S0)
    (h : exNew a pc ls st mm = some (.inl nxt)) (k : ∀ q, WG p l e R s m args below meth c Q D dA A sg nL N0 S0 (adU ad (nm mm.2.1) q) nxt) : WG p l e R s m args below meth c Q D dA A sg nL N0 S0 ad (pc, ls, st, mm) := by
  unfold exNew at h
  cases hbq : (Nat.ble (mm.2.1 + 1) NTOT && Nat.ble a 4) with
  | false => rw [hbq] at h; cases h
  | true =>
    rw [hbq] at h
    simp only [Bool.and_eq_true] at hbq
    have hN : mm.2.1 < NTOT := Nat.le_of_ble_eq_true hbq.1
    cases nx_inj h
    dsimp only at hR
    intro H locs lsc cells slots hr
    have hc : cells + N0 = mm.2.1 := hr.2.2.2.2.2.2.2.1
    have hs : slots + S0 = mm.2.2 := hr.2.2.2.2.2.2.2.2.1
    have h1 := List.all_eq_true.mp insB a (List.mem_range.mpr ha)
    rw [Bool.and_eq_true] at h1
    refine va_new (fs := (List.range (clK a)).map (fun b => cv ad (dfv a b))) C.1 C.2.1 C.2.2.2.2.1 (uw_in ha) (clTy a) (cl_ty ha) C.2.2.2.1 (w_at C.2.2.2.2.1 hw rfl) (w_at C.2.2.2.2.1 h1.1 rfl) (w_at C.2.2.2.2.1 h1.2 rfl) C.2.2.2.2.2.1 hr.1 hr.2.1 hr.2.2.1 C.2.2.2.2.2.2.1 (vw_at ha) (fun b hb => ?_) (by omega) (by omega) hd (fun q H1 hP1 hD1 hS1 => ?_)
    · rw [dfv_val ha hb ad]
      simp [vp_V, hb]
    · have e1 : ce dA (adU ad (nm mm.2.1) q) (.inr (.inr (a, dfv a))) = .inr (a, (List.range (clK a)).map (fun b => cv ad (dfv a b))) := by
        show Sum.inr (a, (List.range (clK a)).map (fun b => cv (adU ad (nm mm.2.1) q) (dfv a b))) = _
        congr 2
        exact List.map_congr_left (fun b _ => dfv_cv a b _ _)
      rw [← e1] at hP1 hD1
      have h2 := k q H1 locs lsc (cells + 1) (slots + clK a) (hr.push (S := mm.2.2 + clK a) hN ⟨ha, fun b => dfv_ok _ a b⟩ (ok_push (Or.inl ⟨mm.2.1, Nat.lt_succ_self _, rfl⟩) (fun v hv => okv_mono (Nat.le_succ _) (hr.oks v hv))) rfl hP1 hD1 hS1)
      dsimp only at h2
      have e2 : (vr (nm mm.2.1).1 (nm mm.2.1).2 :: st).map (cv (adU ad (nm mm.2.1) q)) = Value.ref q :: st.map (cv ad) := by
        rw [List.map_cons, map_cv (fun j hj => adU_old hN hj) (adU_99 hN) hr.oks]
        congr 1
        show Value.ref (adU ad (nm mm.2.1) q (nm mm.2.1)) = _
        simp [adU]
      rw [e2] at h2
      exact h2
theorem sn_newI (C : Cx p s m args meth c D dA A M) {kd : Nat} {at0 : ArrayType} {ty : FieldType} (hd : decode (minf M).2.1 pc = .ok (.newarray at0, 2)) (hty : newarray.typeOf at0 = ty) (hk2 : kd < 2) (hta : (tyA dA)[kd]? = some (dA kd, ty)) (hra : ∀ cA, va_RA s cA ty → va_RA s (dA kd) ty → cA = dA kd) (hwd : (Cond.arrayClass ty).before args s = true) (hdf : defaultValue ty = .int 0) (hcb : componentBytes ty ≤ 4) (hR : nxt.2.2.2.2.1 ≤ R.cells + N0 ∧ nxt.2.2.2.2.2 ≤ R.slots + S0)
    (h : exNewI kd pc ls st mm = some (.inl nxt)) (k : ∀ q, WG p l e R s m args below meth c Q D dA A sg nL N0 S0 (adU ad (nm mm.2.1) q) nxt) : WG p l e R s m args below meth c Q D dA A sg nL N0 S0 ad (pc, ls, st, mm) := by
  unfold exNewI at h
  split at h
  next n r =>
    cases hbq : Nat.ble (mm.2.1 + 1) NTOT with
    | false => rw [hbq] at h; cases h
    | true =>
      rw [hbq] at h
      have hN : mm.2.1 < NTOT := Nat.le_of_ble_eq_true hbq
      dsimp only [cond] at h
      split at h
      next hn =>
        cases nx_inj h
        dsimp only at hR
        intro H locs lsc cells slots hr
        have hc : cells + N0 = mm.2.1 := hr.2.2.2.2.2.2.2.1
        have hs : slots + S0 = mm.2.2 := hr.2.2.2.2.2.2.2.2.1
        have hni : i32 n := ok_hd hr.oks
        have hb4 : n.toNat * componentBytes ty ≤ n.toNat * 4 := Nat.mul_le_mul_left _ hcb
        refine va_newa (N' := n.toNat) (a0 := (n.toNat, .inl (fun _ => Int32.ofInt 0))) C.1 C.2.1 (by rw [hty]; exact hwd) hty C.2.2.2.2.2.1 hr.1 hr.2.1 hr.2.2.1 C.2.2.2.2.2.2.1 (fun cA => ?_) (by rw [o_zero, o_lt hni i32_0]; omega) (tN hni) (by omega) (by omega) (by omega) hd (fun q cA H1 hK1 hP1 hD1 hS1 => ?_)
        · rw [vp_cell_i, hdf]
          rfl
        · have hcA : cA = dA kd := hra cA ((hK1.2 4 (cA, ty) (by simp [tyA])).2) ((C.2.2.2.2.2.1.2 kd _ hta).2)
          subst hcA
          have h2 := k q H1 locs lsc (cells + 1) (slots + n.toNat) (hr.push (e1 := .inl (kd, n.toNat, fun _ => 0)) (S := mm.2.2 + n.toNat) hN ⟨hk2, by omega, fun _ => i32_0⟩ (ok_push (Or.inl ⟨mm.2.1, Nat.lt_succ_self _, rfl⟩) (fun v hv => okv_mono (Nat.le_succ _) (ok_tl hr.oks v hv))) rfl hP1 hD1 hS1)
          dsimp only at h2
          have e2 : (vr (nm mm.2.1).1 (nm mm.2.1).2 :: r).map (cv (adU ad (nm mm.2.1) q)) = Value.ref q :: r.map (cv ad) := by
            rw [List.map_cons, map_cv (fun j hj => adU_old hN hj) (adU_99 hN) (ok_tl hr.oks)]
            congr 1
            show Value.ref (adU ad (nm mm.2.1) q (nm mm.2.1)) = _
            simp [adU]
          rw [e2] at h2
          exact h2
      next => cases h
  next => cases h
theorem sn_newA (C : Cx p s m args meth c D dA A M) {i kd pl : Nat} {C0 : String} (hd : decode (minf M).2.1 pc = .ok (.anewarray i, 3)) (hk2 : kd = 2 ∨ kd = 3) (hta : (tyA dA)[kd]? = some (dA kd, .object C0)) (hw : eqW pl (.classLink (minf M).1.cls i C0) = true) (hov : va_AO C0 s) (hR : nxt.2.2.2.2.1 ≤ R.cells + N0 ∧ nxt.2.2.2.2.2 ≤ R.slots + S0)
    (h : exNewA kd pc ls st mm = some (.inl nxt)) (k : ∀ q, WG p l e R s m args below meth c Q D dA A sg nL N0 S0 (adU ad (nm mm.2.1) q) nxt) : WG p l e R s m args below meth c Q D dA A sg nL N0 S0 ad (pc, ls, st, mm) := by
  unfold exNewA at h
  split at h
  next n r =>
    cases hbq : Nat.ble (mm.2.1 + 1) NTOT with
    | false => rw [hbq] at h; cases h
    | true =>
      rw [hbq] at h
      have hN : mm.2.1 < NTOT := Nat.le_of_ble_eq_true hbq
      dsimp only [cond] at h
      split at h
      next hn =>
        cases nx_inj h
        dsimp only at hR
        intro H locs lsc cells slots hr
        have hc : cells + N0 = mm.2.1 := hr.2.2.2.2.2.2.2.1
        have hs : slots + S0 = mm.2.2 := hr.2.2.2.2.2.2.2.2.1
        have hni : i32 n := ok_hd hr.oks
        refine va_newq (N' := n.toNat) C.1 C.2.1 C.2.2.2.1 (w_at C.2.2.2.2.1 hw rfl) hov C.2.2.2.2.2.1 hr.1 hr.2.1 hr.2.2.1 C.2.2.2.2.2.2.1 (by rw [o_zero, o_lt hni i32_0]; omega) (tN hni) (by omega) (by omega) (by omega) hd (fun q cA H1 hK1 hP1 hD1 hS1 => ?_)
        have hcA : cA = dA kd := by
          obtain ⟨-, -, -, -, -, a4⟩ := (hK1.2 4 (cA, .object C0) (by simp [tyA])).2
          obtain ⟨-, -, -, -, -, b4⟩ := (C.2.2.2.2.2.1.2 kd _ hta).2
          exact Option.some.inj (a4.symm.trans b4)
        subst hcA
        have h2 := k q H1 locs lsc (cells + 1) (slots + n.toNat) (hr.push (e1 := .inr (.inl (kd, n.toNat, fun _ => none))) (S := mm.2.2 + n.toNat) hN ⟨hk2, by omega, fun _ _ h9 => by cases h9⟩ (ok_push (Or.inl ⟨mm.2.1, Nat.lt_succ_self _, rfl⟩) (fun v hv => okv_mono (Nat.le_succ _) (ok_tl hr.oks v hv))) rfl hP1 hD1 hS1)
        dsimp only at h2
        have e2 : (vr (nm mm.2.1).1 (nm mm.2.1).2 :: r).map (cv (adU ad (nm mm.2.1) q)) = Value.ref q :: r.map (cv ad) := by
          rw [List.map_cons, map_cv (fun j hj => adU_old hN hj) (adU_99 hN) (ok_tl hr.oks)]
          congr 1
          show Value.ref (adU ad (nm mm.2.1) q (nm mm.2.1)) = _
          simp [adU]
        rw [e2] at h2
        exact h2
      next => cases h
  next => cases h
theorem cpF_eq (f g : Nat → Int) (sp dp n : Nat) : va_cpy (fun j => Int32.ofInt (f j)) (fun j => Int32.ofInt (g j)) sp dp n = fun j => Int32.ofInt (cpF f g sp dp n j) := by
  funext j
  unfold va_cpy cpF
  split <;> rfl
theorem sn_cpy (C : Cx p s m args meth c D dA A M) {i pl : Nat} (hd : decode (minf M).2.1 pc = .ok (.invokestatic i, 3)) (hnL : c.maxLocals = nL) (hw : eqW pl (.methodLink (minf M).1.cls i arraycopyName) = true) (hR : 1 ≤ R.frames ∧ 100 ≤ R.locals)
    (h : exCpy pc ls st mm = some (.inl nxt)) (k : WG p l e R s m args below meth c Q D dA A sg nL N0 S0 ad nxt) : WG p l e R s m args below meth c Q D dA A sg nL N0 S0 ad (pc, ls, st, mm) := by
  unfold exCpy at h
  split at h
  next n dp k1 sp k0 r =>
    split at h
    next d0 n0 f d1 n1 g hm0 hm1 =>
      cases hbq : (Nat.beq d0 0 && Nat.beq d1 0 && Nat.ble r.length 4) with
      | false => rw [hbq] at h; cases h
      | true =>
        rw [hbq] at h
        simp only [Bool.and_eq_true] at hbq
        obtain ⟨⟨q1, q2⟩, q3⟩ := hbq
        have q1 := Nat.eq_of_beq_eq_true q1
        have q2 := Nat.eq_of_beq_eq_true q2
        have q3 := Nat.le_of_ble_eq_true q3
        subst q1 q2
        dsimp only [cond] at h
        split at h
        next hi =>
          obtain ⟨i1, i2, i3, i4, i5⟩ := hi
          cases nx_inj h
          intro H locs lsc cells slots hr
          have on := ok_hd hr.oks
          have odp := ok_hd (ok_tl hr.oks)
          have ok1 := ok_hd (ok_tl (ok_tl hr.oks))
          have osp := ok_hd (ok_tl (ok_tl (ok_tl hr.oks)))
          have ok0 := ok_hd (ok_tl (ok_tl (ok_tl (ok_tl hr.oks))))
          have okr := ok_tl (ok_tl (ok_tl (ok_tl (ok_tl hr.oks))))
          have on : i32 n := on
          have odp : i32 dp := odp
          have osp : i32 sp := osp
          obtain ⟨j0, hj0, hjk0⟩ := hr.key ok0 (fun L g q => by rw [hm0] at q; cases q)
          obtain ⟨j1, hj1, hjk1⟩ := hr.key ok1 (fun L g q => by rw [hm1] at q; cases q)
          have hE0 := hr.cell hj0 hjk0 hm0
          have hE1 := hr.cell hj1 hjk1 hm1
          have hget0 : (wl dA ad mm)[j0]? = some (ad k0, .inl (dA 0, n0, .inl (fun j => Int32.ofInt (f j)))) := wl_get2 hj0 hjk0 hm0
          have hget1 : (wl dA ad mm)[j1]? = some (ad k1, .inl (dA 0, n1, .inl (fun j => Int32.ofInt (g j)))) := wl_get2 hj1 hjk1 hm1
          have hcb := cpyB
          simp only [Bool.and_eq_true] at hcb
          have hcat := cat_le ad r
          have hnf : nativeFrameWords "java/lang/System" "arraycopy" 5 = 7 := by decide
          refine va_copyi (ty := .int) C.1 C.2.1 (hnL.trans hr.2.2.2.2.1.1.symm) C.2.2.2.1 (w_at C.2.2.2.2.1 hw rfl) (w_at C.2.2.2.2.1 hcb.1.1 rfl) (w_at C.2.2.2.2.1 hcb.1.2 rfl) (w_at C.2.2.2.2.1 hcb.2 rfl) C.2.2.2.2.2.1 hr.1 hr.2.1 hr.2.2.1 j0 j1 0 0 hget0 hget1 rfl rfl rfl (by rw [o_zero, o_lt osp i32_0]; omega) (by rw [o_zero, o_lt odp i32_0]; omega) (by rw [o_zero, o_lt on i32_0]; omega) (by rw [tN osp, tN on]; omega) (by rw [tN odp, tN on]; omega) (fun _ _ => rfl) hR.1 (by rw [hnf]; omega) hd (fun H1 locs1 hP1 hD1 hS1 => ?_)
          rw [tN osp, tN odp, tN on, cpF_eq] at hP1 hD1
          refine k H1 locs1 lsc cells slots (hr.put (e1 := .inl (0, n1, cpF f g sp.toNat dp.toNat n.toNat)) hj1 hjk1 ⟨hE1.1, hE1.2.1, fun j => ?_⟩ okr hP1 hD1 hS1)
          unfold cpF
          split
          · exact hE0.2.2 _
          · exact hE1.2.2 _
        next => cases h
    next => cases h
  next => cases h
theorem sn_obj (C : Cx p s m args meth c D dA A M) {i pl : Nat} (hd : decode (minf M).2.1 pc = .ok (.invokespecial i, 3)) (hnL : c.maxLocals = nL) (hw : eqW pl (.methodLink (minf M).1.cls i objectInit) = true) (hR : 1 ≤ R.frames ∧ 100 ≤ R.locals)
    (h : exObj pc ls st mm = some (.inl nxt)) (k : WG p l e R s m args below meth c Q D dA A sg nL N0 S0 ad nxt) : WG p l e R s m args below meth c Q D dA A sg nL N0 S0 ad (pc, ls, st, mm) := by
  unfold exObj at h
  split at h
  next k0 r =>
    cases hbq : Nat.ble r.length 4 with
    | false => rw [hbq] at h; cases h
    | true =>
      rw [hbq] at h
      have q3 := Nat.le_of_ble_eq_true hbq
      cases nx_inj h
      intro H locs lsc cells slots hr
      have hcat := cat_le ad r
      refine W.objInit C.1 C.2.1 C.2.2.2.1 (w_at C.2.2.2.2.1 hw rfl) (w_at C.2.2.2.2.1 objB rfl) (w_pl C.2.2.2.2.1 objC rfl) rfl (by rw [hnL]; exact hr.2.2.2.2.1.1) rfl hd hR.1 (by show 2 * 0 + _ + 12 ≤ _; omega) ?_
      exact k H locs lsc cells slots (hr.stk (ok_tl hr.oks))
  next => cases h
theorem mx_eq {x y : Int} (h : i32 x) (k : i32 y) : (if Int32.ofInt x < Int32.ofInt y then Int32.ofInt y else Int32.ofInt x) = Int32.ofInt (if x < y then y else x) := by
  by_cases q : x < y
  · rw [if_pos q, if_pos ((o_lt h k).mpr q)]
  · rw [if_neg q, if_neg (fun z => q ((o_lt h k).mp z))]
theorem mn_eq {x y : Int} (h : i32 x) (k : i32 y) : (if Int32.ofInt y < Int32.ofInt x then Int32.ofInt y else Int32.ofInt x) = Int32.ofInt (if y < x then y else x) := by
  by_cases q : y < x
  · rw [if_pos q, if_pos ((o_lt k h).mpr q)]
  · rw [if_neg q, if_neg (fun z => q ((o_lt k h).mp z))]
theorem sn_max (C : Cx p s m args meth c D dA A M) {i pl : Nat} (hd : decode (minf M).2.1 pc = .ok (.invokestatic i, 3)) (hnL : c.maxLocals = nL) (hw : eqW pl (.methodLink (minf M).1.cls i Lib.Math.max.name) = true) (hR : 1 ≤ R.frames ∧ 100 ≤ R.locals) (hRc : mm.2.1 ≤ R.cells + N0 ∧ mm.2.2 ≤ R.slots + S0)
    (h : exMx true pc ls st mm = some (.inl nxt)) (k : WG p l e R s m args below meth c Q D dA A sg nL N0 S0 ad nxt) : WG p l e R s m args below meth c Q D dA A sg nL N0 S0 ad (pc, ls, st, mm) := by
  unfold exMx at h
  split at h
  next y x r =>
    cases hbq : Nat.ble r.length 4 with
    | false => rw [hbq] at h; cases h
    | true =>
      rw [hbq] at h
      have q3 := Nat.le_of_ble_eq_true hbq
      cases nx_inj h
      intro H locs lsc cells slots hr
      have hcat := cat_le ad r
      have hy : i32 y := ok_hd hr.oks
      have hx : i32 x := ok_hd (ok_tl hr.oks)
      have hc : cells + N0 = mm.2.1 := hr.2.2.2.2.2.2.2.1
      have hs : slots + S0 = mm.2.2 := hr.2.2.2.2.2.2.2.2.1
      have hb := maxB
      simp only [Bool.and_eq_true] at hb
      refine va_mmax (x := Int32.ofInt x) (y := Int32.ofInt y) C.1 C.2.1 (hnL.trans hr.2.2.2.2.1.1.symm) C.2.2.2.1 (w_at C.2.2.2.2.1 hw rfl) (w_at C.2.2.2.2.1 hb.1.1.1 rfl) (w_at C.2.2.2.2.1 hb.1.1.2 rfl) (w_pl C.2.2.2.2.1 maxC rfl) hR.1 (by omega) (by omega) (by omega) hd ?_
      rw [mx_eq hx hy]
      refine k H locs lsc cells slots (hr.stk (ok_push (show i32 (if x < y then y else x) from ?_) (ok_tl (ok_tl hr.oks))))
      split
      · exact hy
      · exact hx
  next => cases h
theorem sn_min (C : Cx p s m args meth c D dA A M) {i pl : Nat} (hd : decode (minf M).2.1 pc = .ok (.invokestatic i, 3)) (hnL : c.maxLocals = nL) (hw : eqW pl (.methodLink (minf M).1.cls i Lib.Math.min.name) = true) (hR : 1 ≤ R.frames ∧ 100 ≤ R.locals) (hRc : mm.2.1 ≤ R.cells + N0 ∧ mm.2.2 ≤ R.slots + S0)
    (h : exMx false pc ls st mm = some (.inl nxt)) (k : WG p l e R s m args below meth c Q D dA A sg nL N0 S0 ad nxt) : WG p l e R s m args below meth c Q D dA A sg nL N0 S0 ad (pc, ls, st, mm) := by
  unfold exMx at h
  split at h
  next y x r =>
    cases hbq : Nat.ble r.length 4 with
    | false => rw [hbq] at h; cases h
    | true =>
      rw [hbq] at h
      have q3 := Nat.le_of_ble_eq_true hbq
      cases nx_inj h
      intro H locs lsc cells slots hr
      have hcat := cat_le ad r
      have hy : i32 y := ok_hd hr.oks
      have hx : i32 x := ok_hd (ok_tl hr.oks)
      have hc : cells + N0 = mm.2.1 := hr.2.2.2.2.2.2.2.1
      have hs : slots + S0 = mm.2.2 := hr.2.2.2.2.2.2.2.2.1
      have hb := maxB
      simp only [Bool.and_eq_true] at hb
      refine va_mmin (x := Int32.ofInt x) (y := Int32.ofInt y) C.1 C.2.1 (hnL.trans hr.2.2.2.2.1.1.symm) C.2.2.2.1 (w_at C.2.2.2.2.1 hw rfl) (w_at C.2.2.2.2.1 hb.1.2 rfl) (w_at C.2.2.2.2.1 hb.2 rfl) (w_pl C.2.2.2.2.1 minC rfl) hR.1 (by omega) (by omega) (by omega) hd ?_
      rw [mn_eq hx hy]
      refine k H locs lsc cells slots (hr.stk (ok_push (show i32 (if y < x then y else x) from ?_) (ok_tl (ok_tl hr.oks))))
      split
      · exact hy
      · exact hx
  next => cases h
end NW
