/-! A CALL, and the induction over all -/
theorem call_facts {kind M M' pc : Nat} {st : List AV} {mm : AMem} {o : ROut} (h : exCall kind M M' pc st mm = some o) :
    o = .inr (.inr (M', (st.take (minf M').2.2.2.2.1).reverse, st.drop (minf M').2.2.2.2.1, pc + 3)) ∧ (minf M').2.2.2.2.1 ≤ st.length ∧ (minf M').2.2.2.2.2.1 = kind ∧ (st.drop (minf M').2.2.2.2.1).length ≤ 4 ∧ (1 ≤ M ∨ (st.take (minf M').2.2.2.2.1).all noScr = true)
    ∧ (kind = 1 → recvOk mm (minf M').2.2.2.2.2.2 (st.take (minf M').2.2.2.2.1).getLast? = true) ∧ (entL (st.take (minf M').2.2.2.2.1).reverse).length ≤ (minf M').2.2.1 ∧ (kind = 2 → isRf (st.take (minf M').2.2.2.2.1).getLast? = true) := by
  unfold exCall at h
  obtain ⟨h1, h2⟩ := cond_some h
  simp only [Bool.and_eq_true, Bool.or_eq_true, Bool.not_eq_true'] at h1
  obtain ⟨⟨⟨⟨⟨⟨a1, a2⟩, a3⟩, a4⟩, a5⟩, a6⟩, a7⟩ := h1
  cases h2
  refine ⟨rfl, Nat.le_of_ble_eq_true a1, Nat.eq_of_beq_eq_true a2, Nat.le_of_ble_eq_true a3, a4.imp Nat.le_of_ble_eq_true id, fun hk => ?_, Nat.le_of_ble_eq_true a6, fun hk => ?_⟩
  · subst hk
    rcases a5 with a5 | a5
    · cases a5
    · exact a5
  · subst hk
    rcases a7 with a7 | a7
    · cases a7
    · exact a7
theorem wl_congr {dA : Nat → ClassId} {ad ad' : AK → Nat} {mm : AMem} (hM : okM mm) (hag : ∀ j, j < mm.2.1 → ad' (nm j) = ad (nm j)) : wl dA ad' mm = wl dA ad mm := by
  unfold wl
  apply List.map_congr_left
  intro j hj
  have hj := List.mem_range.mp hj
  rw [hag j hj, ce_congr hag (hM.2 j hj)]
theorem noScr_ok {N : Nat} {sg : Bool} {v : AV} (h : noScr v = true) (hv : okv N sg v) : okv N false v := by
  rcases v with x | x | (_ | k)
  · exact hv
  · exact hv
  · trivial
  · rcases hv with hv | ⟨-, hv⟩
    · exact Or.inl hv
    · subst hv
      simp [noScr] at h
section CS
variable {p : Program} {l : Launch} {e : Env} {R : Room} {s : State} {m : MethodId} {args : Array Value} {below : List Frame} {meth : Method} {c : Code} {Q : State → Prop} {D : va_G} {dA : Nat → ClassId} {A : Nat → Prop} {sg : Bool} {nL N0 S0 M : Nat} {ad : AK → Nat} {pc : Nat} {ls : ALs} {st : List AV} {mm : AMem} {nxt : Nat × ALs × List AV × AMem}
theorem sn_call (C : Cx p s m args meth c D dA A M) {q : INS} {n d' kind i : Nat} (ih : SND n) (hf : fetch M pc = some q) (hnL : c.maxLocals = nL) (hsg : 1 ≤ M → sg = false) {mmF mm1 : AMem} {r1 : Option AV} (hR : RM R (d' + 1) N0 S0 mmF)
    (hkind : (kind = 0 ∧ q.1 = .invokestatic i ∧ Nat.beq q.2.2.1 9999 = false ∧ Nat.beq q.2.2.1 9997 = false ∧ Nat.beq q.2.2.1 9996 = false) ∨ (kind = 1 ∧ q.1 = .invokevirtual i) ∨ (kind = 2 ∧ q.1 = .invokespecial i ∧ Nat.beq q.2.2.1 9998 = false))
    {M' : Nat} {av rest : List AV} {pc' : Nat} (he : exCall kind M q.2.2.1 pc st mm = some (.inr (.inr (M', av, rest, pc')))) (hgo : go n d' M' 0 (entry M' av) [] mm = some (r1, mm1)) (hle : mm1.2.1 ≤ mmF.2.1 ∧ mm1.2.2 ≤ mmF.2.2)
    (k : ∀ ad' : AK → Nat, (∀ j, j < mm.2.1 → ad' (nm j) = ad (nm j)) → ad' (99, 0) = ad (99, 0) → WG p l e R s m args below meth c Q D dA A sg nL N0 S0 ad' (pc', ls, r1.toList ++ rest, mm1)) : WG p l e R s m args below meth c Q D dA A sg nL N0 S0 ad (pc, ls, st, mm) := by
  obtain ⟨hd, hc⟩ := fetch_ok hf
  have hln := fetch_len hf
  obtain ⟨ins, len, a, b, z⟩ := q
  dsimp only at hd hln hkind he
  obtain ⟨e1, e2, e3, e4, e5, e6, e7, e8⟩ := call_facts he
  cases e1
  have hmo := go_mono hgo
  intro H locs lsc cells slots hr
  obtain ⟨hP, hD, hS, hM, hL, okl, oks, hcc, hss, hscr⟩ := id hr
  replace hcc : cells + N0 = mm.2.1 := hcc
  replace hss : slots + S0 = mm.2.2 := hss
  replace okl : ∀ k v, nth ls k none = some v → okv mm.2.1 sg v := okl
  replace oks : ∀ v ∈ st, okv mm.2.1 sg v := oks
  replace hM : okM mm := hM
  replace hP : va_P D vwCl (wl dA ad mm) H := hP
  replace hD : va_D A (wl dA ad mm) := hD
  replace hL : LR ad nL ls lsc := hL
  -- the arguments hold no script
  have hav : ∀ v ∈ (st.take (minf M').2.2.2.2.1).reverse, okv mm.2.1 false v := by
    intro v hv
    have hv := List.mem_reverse.mp hv
    have hv2 := oks v (List.mem_of_mem_take hv)
    rcases e5 with e5 | e5
    · rw [hsg e5] at hv2
      exact hv2
    · exact noScr_ok (List.all_eq_true.mp e5 v hv) hv2
  -- the callee's number and words
  have hMM : 0 < M' ∧ M' < NM := by
    rcases hkind with ⟨rfl, rfl, q1, q2, q3⟩ | ⟨rfl, rfl⟩ | ⟨rfl, rfl, q1⟩
    · simp only [chkA, q1, q2, q3, cond, Bool.and_eq_true] at hc
      exact ⟨Nat.le_of_ble_eq_true hc.1.1, Nat.le_of_ble_eq_true hc.1.2⟩
    · simp only [chkA, Bool.and_eq_true] at hc
      exact ⟨Nat.le_of_ble_eq_true hc.1.1, Nat.le_of_ble_eq_true hc.1.2⟩
    · simp only [chkA, q1, cond, Bool.and_eq_true] at hc
      exact ⟨Nat.le_of_ble_eq_true hc.1.1, Nat.le_of_ble_eq_true hc.1.2⟩
  obtain ⟨hcode, hN⟩ := cm_all hMM.1 hMM.2
  unfold chkN at hN
  simp only [Bool.and_eq_true, decide_eq_true_eq] at hN
  obtain ⟨⟨⟨⟨⟨⟨w1, w2⟩, w3⟩, w4⟩, w5⟩, w6⟩, w7⟩ := hN
  have w6 := Nat.le_of_ble_eq_true w6
  have hts := C.2.2.2.2.1
  have hGood : GoodIn gw (wsM M') := by
    intro w hw
    rcases List.mem_cons.mp hw with rfl | hw
    · exact ⟨List.mem_filter.mpr ⟨List.mem_of_getElem? hcode, rfl⟩, Or.inl rfl⟩
    · exact ⟨hw, wsM_good w hw⟩
  have hMet := met_ok ih hgo hMM.1 hMM.2 hav hM e7 l D dA ad H.size
  have hfr : (rmD d' (mm1.2.1 - mm.2.1) (mm1.2.2 - mm.2.2)).frames + 1 ≤ R.frames ∧ 8 + ((minf M').2.2.1 + 11) + (rmD d' (mm1.2.1 - mm.2.1) (mm1.2.2 - mm.2.2)).locals ≤ R.locals := by
    obtain ⟨r1, r2, -, -⟩ := hR
    exact ⟨r1, by show 8 + ((minf M').2.2.1 + 11) + 100 * (d' + 1) ≤ R.locals; omega⟩
  have hroom : cells + (mm1.2.1 - mm.2.1) ≤ R.cells ∧ slots + (mm1.2.2 - mm.2.2) ≤ R.slots := by
    obtain ⟨-, -, r3, r4⟩ := hR
    have g1 := hmo.1.1
    have g2 := hmo.1.2
    exact ⟨by omega, by omega⟩
  have hPre : ∀ U : State, U.heap = H → s.WarmedH U.vm → Pcc D dA ad mm ((st.take (minf M').2.2.2.2.1).reverse) H.size (((st.take (minf M').2.2.2.2.1).reverse).map (cv ad)).toArray U := by
    intro U hU hW
    refine ⟨rfl, by rw [hU], by rw [hU]; exact hP, va_K.moved hW.alike C.2.2.2.2.2.1, hD.weaken (fun _ _ _ _ => trivial), ⟨C.2.2.2.2.2.2.2.2.1.1.moved hW.alike, C.2.2.2.2.2.2.2.2.1.2.moved hW.alike⟩, fun w hw => ?_⟩
    have h9 := C.2.2.2.2.2.2.2.2.2 w hw
    obtain ⟨_, _, _, _, rfl⟩ := nw_form hw
    exact va_Nw.warmM hW h9
  have hFix : CallFix p m c (minf M).2.1 nL s args gw (minf M).1.cls := ⟨C.1, C.2.1, hnL, C.2.2.2.1, hts⟩
  have hFree : ∀ q, va_A (wl dA ad mm) H.size q → A q := by
    intro q hq
    rcases hq with ⟨j, e0, hj⟩ | hq
    · exact hD.2 j _ hj
    · exact C.2.2.2.2.2.2.1 q (Nat.le_trans hS.1 hq)
  have hstk : st.map (cv ad) = (((st.take (minf M').2.2.2.2.1).reverse).map (cv ad)).reverse ++ (st.drop (minf M').2.2.2.2.1).map (cv ad) := by
    rw [List.map_reverse, List.reverse_reverse, ← List.map_append, List.take_append_drop]
  have hcat : (((st.drop (minf M').2.2.2.2.1).map (cv ad)).map fun v => v.category).sum ≤ 8 := by
    have := cat_le ad (st.drop (minf M').2.2.2.2.1)
    omega
  have hlenA : ((st.take (minf M').2.2.2.2.1).reverse).length = (minf M').2.2.2.2.1 := by
    rw [List.length_reverse, List.length_take]
    omega
  -- behind the call
  have after : ∀ (ad' : AK → Nat) (H1 : Heap) (locs1 : List Loc), (∀ j, j < mm.2.1 → ad' (nm j) = ad (nm j)) → va_P D vwCl (wl dA ad' mm1) H1 → va_D (va_A (wl dA ad mm) H.size) (wl dA ad' mm1) → okM mm1 → (∀ v, r1 = some v → okv mm1.2.1 false v) → va_S A s.heap H1 locs1 → W p l e R s m args below meth c H1 locs1 (cells + (mm1.2.1 - mm.2.1)) (slots + (mm1.2.2 - mm.2.2)) Q (F0 m (pc + 3) lsc (r1.toList.map (cv ad') ++ (st.drop (minf M').2.2.2.2.1).map (cv ad))) := by
    intro ad' H1 locs1 hag hP1 hD1 hM1 hok1 hS1
    have hag2 : ∀ j, j < mm1.2.1 → adU ad' (99, 0) (ad (99, 0)) (nm j) = ad' (nm j) := by
      intro j hj
      have : nm j ≠ (99, 0) := nm_99 (Nat.lt_of_lt_of_le hj hM1.1)
      simp [adU, this]
    have h99 : adU ad' (99, 0) (ad (99, 0)) (99, 0) = ad (99, 0) := by simp [adU]
    have hag3 : ∀ j, j < mm.2.1 → adU ad' (99, 0) (ad (99, 0)) (nm j) = ad (nm j) := fun j hj => (hag2 j (Nat.lt_of_lt_of_le hj hmo.1.1)).trans (hag j hj)
    have k2 := k (adU ad' (99, 0) (ad (99, 0))) hag3 h99 H1 locs1 lsc (cells + (mm1.2.1 - mm.2.1)) (slots + (mm1.2.2 - mm.2.2))
      ⟨by rw [wl_congr hM1 hag2]; exact hP1, by rw [wl_congr hM1 hag2]; exact hD1.weaken (fun _ q _ h => hFree _ h), hS1, hM1,
        ⟨hL.1, hL.2.1, hL.2.2.1, fun k v hv => by rw [hL.2.2.2 k v hv, cv_congr2 hag3 h99 (okl k v hv)]⟩,
        fun k v hv => okv_mono hmo.1.1 (okl k v hv),
        fun v hv => by
          rcases List.mem_append.mp hv with hv | hv
          · cases r1 with
            | none => cases hv
            | some w =>
              have : v = w := by simpa using hv
              subst this
              exact okv_true (hok1 v rfl)
          · exact okv_mono hmo.1.1 (oks v (List.mem_of_mem_drop hv)),
        by have g1 := hmo.1.1; show cells + (mm1.2.1 - mm.2.1) + N0 = mm1.2.1; omega,
        by have g2 := hmo.1.2; show slots + (mm1.2.2 - mm.2.2) + S0 = mm1.2.2; omega,
        fun hs => by
          obtain ⟨b0, L, xs, g1, g2, g3, g4, g5, g6⟩ := hscr hs
          exact ⟨b0, L, xs, g1, g2, g3, h99.trans g4, g5, hmo.2 _ _ g6⟩⟩
    have e9 : (r1.toList ++ st.drop (minf M').2.2.2.2.1).map (cv (adU ad' (99, 0) (ad (99, 0)))) = r1.toList.map (cv ad') ++ (st.drop (minf M').2.2.2.2.1).map (cv ad) := by
      rw [List.map_append]
      congr 1
      · cases r1 with
        | none => rfl
        | some w =>
          show [_] = [_]
          rw [cv_congr hag2 (hok1 w rfl)]
      · exact List.map_congr_left (fun v hv => cv_congr2 hag3 h99 (oks v (List.mem_of_mem_drop hv)))
    dsimp only at k2
    rw [e9] at k2
    exact k2
  show W p l e R s m args below meth c H locs cells slots Q (F0 m pc lsc (st.map (cv ad)))
  rw [hstk]
  rcases hkind with ⟨rfl, rfl, q1, q2, q3⟩ | ⟨rfl, rfl⟩ | ⟨rfl, rfl, q1⟩
  · replace hln : len = 3 := hln.resolve_left (show ¬ (3 : Nat) = 0 by decide)
    subst hln
    simp only [chkA, q1, q2, q3, cond, Bool.and_eq_true] at hc
    rw [e3] at w2 w5
    refine callG (va_runS hFix hMet ⟨callB_of (minf M').2.2.2.2.1 hts hGood rfl rfl rfl (w_at hts w1 rfl) (w_at hts hc.2 rfl) ⟨w3, w4, by simpa using w5⟩ hfr, w_at hts w2 rfl⟩ ⟨Pcc_blind _ _ _ _ _ _, hPre⟩ rfl (by rw [List.length_map]; exact hlenA) hL.1 rfl (lv_room hcat) hd hroom) hS (fun q _ h => hFree q h) hFree after
  · replace hln : len = 3 := hln.resolve_left (show ¬ (3 : Nat) = 0 by decide)
    subst hln
    simp only [chkA, Bool.and_eq_true] at hc
    rw [e3] at w2 w5
    try dsimp only at w2 w5
    simp only [Bool.and_eq_true, decide_eq_true_eq] at w2
    obtain ⟨⟨⟨x1, x2⟩, x3⟩, x4⟩ := w2
    -- the receiver
    have hrec := e6 rfl
    cases hlast : (st.take (minf M').2.2.2.2.1).getLast? with
    | none => rw [hlast] at hrec; simp [recvOk] at hrec
    | some v0 =>
      rw [hlast] at hrec
      unfold recvOk at hrec
      split at hrec
      next k0 hk0 =>
        split at hrec
        next c' f' hm' =>
          have hcc' := Nat.eq_of_beq_eq_true hrec
          cases hk0
          obtain ⟨t0, ht0⟩ := List.getLast?_eq_some_iff.mp hlast
          have hrev : (st.take (minf M').2.2.2.2.1).reverse = .inr (.inr (some k0)) :: t0.reverse := by rw [ht0]; simp
          rw [hrev] at hPre hMet hlenA hav ⊢
          obtain ⟨j, hj, hjk⟩ := hr.key (okv_true (hav _ List.mem_cons_self)) (fun L g q => by rw [hm'] at q; cases q)
          have hget : (wl dA ad mm)[j]? = some (ad k0, .inr (c', (List.range (clK c')).map (fun k => cv ad (f' k)))) := wl_get2 hj hjk hm'
          have hcl : vwCl[c']? = some (clR c', clT c', clK c') := vw_at (by rw [hcc']; exact Nat.lt_succ_of_le (Nat.le_of_ble_eq_true x3))
          have hrv := va_recv C.2.2.2.2.2.1 hP hcl hget
          rw [hcc', x4] at hrv
          have hlen2 : (t0.reverse.map (cv ad)).length = (minf M').2.2.2.2.1 - 1 := by
            rw [List.length_map]
            simp only [List.length_cons] at hlenA
            omega
          refine callG (va_runV (C := (minf M').1.cls) (As := t0.reverse.map (cv ad)) (rest := (st.drop (minf M').2.2.2.2.1).map (cv ad)) hFix hMet ⟨callB_of ((minf M').2.2.2.2.1 - 1) hts hGood rfl rfl rfl (w_at hts w1 rfl) (w_at hts hc.2 rfl) ⟨w3, w4, by simpa using w5⟩ hfr, w_at hts x1 rfl, w_at hts x2 rfl⟩ ⟨Pcc_blind _ _ _ _ _ _, hrv, hPre⟩ rfl hlen2 hL.1 ?_ (lv_room hcat) hd hroom) hS (fun q _ h => hFree q h) hFree after
          show _ = _
          simp [cv]
        next => cases hrec
      next => cases hrec
  · replace hln : len = 3 := hln.resolve_left (show ¬ (3 : Nat) = 0 by decide)
    subst hln
    simp only [chkA, q1, cond, Bool.and_eq_true, Bool.or_eq_true] at hc
    rw [e3] at w2 w5
    try dsimp only at w2 w5
    simp only [Bool.and_eq_true, decide_eq_true_eq] at w2
    obtain ⟨⟨x1, x2⟩, x3⟩ := w2
    -- the first argument is a reference
    have hfirst : ∃ k0 t0, (st.take (minf M').2.2.2.2.1).reverse = .inr (.inr (some k0)) :: t0 := by
      have h8 := e8 rfl
      cases hlast : (st.take (minf M').2.2.2.2.1).getLast? with
      | none => rw [hlast] at h8; cases h8
      | some v0 =>
        rw [hlast] at h8
        obtain ⟨t0, ht0⟩ := List.getLast?_eq_some_iff.mp hlast
        rcases v0 with x | x | (_ | k0)
        · cases h8
        · cases h8
        · cases h8
        · exact ⟨k0, t0.reverse, by rw [ht0]; simp⟩
    obtain ⟨k0, t0, hrev⟩ := hfirst
    rw [hrev] at hPre hMet hlenA hav ⊢
    have hlen2 : (t0.map (cv ad)).length = (minf M').2.2.2.2.1 - 1 := by
      rw [List.length_map]
      simp only [List.length_cons] at hlenA
      omega
    rw [x3] at hcode
    rcases hc.2 with hc2 | hc2
    · refine callG (va_runI (As := t0.map (cv ad)) (rest := (st.drop (minf M').2.2.2.2.1).map (cv ad)) (b := ad k0) hFix hMet ⟨callB_of ((minf M').2.2.2.2.1 - 1) hts hGood (by rw [wsM, x3]) rfl rfl (w_at hts w1 rfl) (w_at hts hc2 rfl) ⟨w3, w4, by simpa using w5⟩ hfr, x2, w_at hts x1 rfl⟩ ⟨Pcc_blind _ _ _ _ _ _, hPre⟩ rfl hlen2 hL.1 ?_ (lv_room hcat) hd hroom) hS (fun q _ h => hFree q h) hFree after
      show _ = _
      simp [cv]
    · have hnw : Cond.methodLinkNest (minf M).1.cls i (minf M').1 "FerryChange" ∈ nw := List.mem_filter.mpr ⟨List.mem_of_getElem? (of_decide_eq_true hc2), rfl⟩
      refine callG (va_runIN (As := t0.map (cv ad)) (rest := (st.drop (minf M').2.2.2.2.1).map (cv ad)) (b := ad k0) hFix hMet ⟨va_cnB ((minf M').2.2.2.2.1 - 1) hts hGood (by rw [wsM, x3]) rfl rfl (C.2.2.2.2.2.2.2.2.2 _ hnw) (w_at hts w1 rfl) ⟨w3, w4, by simpa using w5⟩ hfr, x2, w_at hts x1 rfl⟩ ⟨Pcc_blind _ _ _ _ _ _, hPre⟩ rfl hlen2 hL.1 ?_ (lv_room hcat) hd hroom) hS (fun q _ h => hFree q h) hFree after
      show _ = _
      simp [cv]
end CS
