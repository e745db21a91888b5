/-! ONE STEP, one instruction: from the next abstract state's goal to this one's -/
def gw : List Cond := lw_tbl.filter goodWord
def isNest (w : Cond) : Bool := match w with
  | .methodLinkNest _ _ _ _ => true
  | _ => false
def nw : List Cond := lw_tbl.filter isNest
def Cx (p : Program) (s : State) (m : MethodId) (args : Array Value) (meth : Method) (c : Code) (D : va_G) (dA : Nat → ClassId) (A : Nat → Prop) (M : Nat) : Prop :=
  p.tables.exec = Jvm.exec ∧ c.code = (minf M).2.1 ∧ c.maxLocals = (minf M).2.2.1 ∧ s.vm.findClass (minf M).1.cls = some m.cls ∧ (∀ w ∈ gw, w.before args s = true) ∧ va_K D vwCl (tyA dA) s ∧ (∀ q, s.heap.size ≤ q → A q) ∧ meth.name = (minf M).1.name ∧ (va_AO "FerryChange$Ferry" s ∧ va_AO "FerryChange$Row" s) ∧ ∀ w ∈ nw, va_Nw w s
def Scr (s : State) (A : Nat → Prop) (ad : AK → Nat) (mm : AMem) : Prop := ∃ (b L : Nat) (xs : Nat → Int32), va_X b L xs s s.heap ∧ b < s.heap.size ∧ ¬ A b ∧ ad (99, 0) = b ∧ L < 2147483648 ∧ mm.1 (99, 0) = .inl (4, L, fun j => (xs j).toInt)
def Rl (s : State) (D : va_G) (dA : Nat → ClassId) (A : Nat → Prop) (sg : Bool) (nL N0 S0 : Nat) (ad : AK → Nat) (H : Heap) (locs : List Loc) (lsc : Array Slot) (cells slots : Nat) (ls : ALs) (st : List AV) (mm : AMem) : Prop :=
  va_P D vwCl (wl dA ad mm) H ∧ va_D A (wl dA ad mm) ∧ va_S A s.heap H locs ∧ okM mm ∧ LR ad nL ls lsc ∧ (∀ k v, nth ls k none = some v → okv mm.2.1 sg v) ∧ (∀ v ∈ st, okv mm.2.1 sg v) ∧ cells + N0 = mm.2.1 ∧ slots + S0 = mm.2.2 ∧ (sg = true → Scr s A ad mm)
def WG (p : Program) (l : Launch) (e : Env) (R : Room) (s : State) (m : MethodId) (args : Array Value) (below : List Frame) (meth : Method) (c : Code) (Q : State → Prop) (D : va_G) (dA : Nat → ClassId) (A : Nat → Prop) (sg : Bool) (nL N0 S0 : Nat) (ad : AK → Nat) (x : Nat × ALs × List AV × AMem) : Prop :=
  ∀ (H : Heap) (locs : List Loc) (lsc : Array Slot) (cells slots : Nat), Rl s D dA A sg nL N0 S0 ad H locs lsc cells slots x.2.1 x.2.2.1 x.2.2.2 → W p l e R s m args below meth c H locs cells slots Q (F0 m x.1 lsc (x.2.2.1.map (cv ad)))
theorem nx_inj {pc : Nat} {ls : ALs} {st : List AV} {mm : AMem} {nxt : Nat × ALs × List AV × AMem} (h : nx pc ls st mm = some (.inl nxt)) : nxt = (pc, ls, st, mm) := by
  unfold nx at h
  cases h
  rfl
theorem w_at {w : Cond} {pl : Nat} {args : Array Value} {s : State} (hg : ∀ w ∈ gw, w.before args s = true) (h : eqW pl w = true) (hw : goodWord w = true) : w.before args s = true :=
  hg w (List.mem_filter.mpr ⟨List.mem_of_getElem? (of_decide_eq_true h), hw⟩)
section ST
variable {p : Program} {l : Launch} {e : Env} {R : Room} {s : State} {m : MethodId} {args : Array Value} {below : List Frame} {meth : Method} {c : Code} {Q : State → Prop} {D : va_G} {dA : Nat → ClassId} {A : Nat → Prop} {sg : Bool} {nL N0 S0 M : Nat} {ad : AK → Nat} {pc : Nat} {ls : ALs} {st : List AV} {mm : AMem} {nxt : Nat × ALs × List AV × AMem}
/-- another stack over the same memory and locals -/
theorem Rl.stk {H : Heap} {locs : List Loc} {lsc : Array Slot} {cells slots : Nat} {st' : List AV} (h : Rl s D dA A sg nL N0 S0 ad H locs lsc cells slots ls st mm) (hs : ∀ v ∈ st', okv mm.2.1 sg v) : Rl s D dA A sg nL N0 S0 ad H locs lsc cells slots ls st' mm :=
  ⟨h.1, h.2.1, h.2.2.1, h.2.2.2.1, h.2.2.2.2.1, h.2.2.2.2.2.1, hs, h.2.2.2.2.2.2.2⟩
theorem Rl.oks {H : Heap} {locs : List Loc} {lsc : Array Slot} {cells slots : Nat} (h : Rl s D dA A sg nL N0 S0 ad H locs lsc cells slots ls st mm) : ∀ v ∈ st, okv mm.2.1 sg v := h.2.2.2.2.2.2.1
theorem ok_push {N : Nat} {sg : Bool} {v : AV} {r : List AV} (hv : okv N sg v) (h : ∀ v ∈ r, okv N sg v) : ∀ w ∈ v :: r, okv N sg w := fun w hw => (List.mem_cons.mp hw).elim (fun e => e ▸ hv) (h w)
theorem ok_tl {N : Nat} {sg : Bool} {v : AV} {r : List AV} (h : ∀ w ∈ v :: r, okv N sg w) : ∀ w ∈ r, okv N sg w := fun w hw => h w (List.mem_cons_of_mem _ hw)
theorem ok_hd {N : Nat} {sg : Bool} {v : AV} {r : List AV} (h : ∀ w ∈ v :: r, okv N sg w) : okv N sg v := h v List.mem_cons_self
/-- a constant comes on the stack -/
theorem sn_pushI {n : Int} {pc' : Nat} (row : ∀ {H : Heap} {locs : List Loc} {cells slots : Nat} {lsc : Array Slot} {rest : List Value}, W p l e R s m args below meth c H locs cells slots Q (F0 m pc' lsc (.int (Int32.ofInt n) :: rest)) → W p l e R s m args below meth c H locs cells slots Q (F0 m pc lsc rest)) (hn : i32 n)
    (h : nx pc' ls (vi n :: st) mm = some (.inl nxt)) (k : WG p l e R s m args below meth c Q D dA A sg nL N0 S0 ad nxt) : WG p l e R s m args below meth c Q D dA A sg nL N0 S0 ad (pc, ls, st, mm) := by
  cases nx_inj h
  intro H locs lsc cells slots hr
  exact row (k H locs lsc cells slots (hr.stk (ok_push hn hr.oks)))
theorem sn_pushL {n : Int} {pc' : Nat} (row : ∀ {H : Heap} {locs : List Loc} {cells slots : Nat} {lsc : Array Slot} {rest : List Value}, W p l e R s m args below meth c H locs cells slots Q (F0 m pc' lsc (.long (Int64.ofInt n) :: rest)) → W p l e R s m args below meth c H locs cells slots Q (F0 m pc lsc rest)) (hn : i64 n)
    (h : nx pc' ls (vl n :: st) mm = some (.inl nxt)) (k : WG p l e R s m args below meth c Q D dA A sg nL N0 S0 ad nxt) : WG p l e R s m args below meth c Q D dA A sg nL N0 S0 ad (pc, ls, st, mm) := by
  cases nx_inj h
  intro H locs lsc cells slots hr
  exact row (k H locs lsc cells slots (hr.stk (ok_push hn hr.oks)))
/-- loads -/
theorem sn_ldI {i pc' : Nat} (row : ∀ {H : Heap} {locs : List Loc} {cells slots : Nat} {lsc : Array Slot} {rest : List Value} {x : Int32}, lsc[i]? = some (.val (.int x)) → W p l e R s m args below meth c H locs cells slots Q (F0 m pc' lsc (.int x :: rest)) → W p l e R s m args below meth c H locs cells slots Q (F0 m pc lsc rest))
    (h : ldI ls i pc' st mm = some (.inl nxt)) (k : WG p l e R s m args below meth c Q D dA A sg nL N0 S0 ad nxt) : WG p l e R s m args below meth c Q D dA A sg nL N0 S0 ad (pc, ls, st, mm) := by
  unfold ldI at h
  split at h
  next x hx =>
    cases nx_inj h
    intro H locs lsc cells slots hr
    exact row (hr.2.2.2.2.1.2.2.2 i _ hx) (k H locs lsc cells slots (hr.stk (ok_push (hr.2.2.2.2.2.1 i _ hx) hr.oks)))
  next => cases h
theorem sn_ldL {i pc' : Nat} (row : ∀ {H : Heap} {locs : List Loc} {cells slots : Nat} {lsc : Array Slot} {rest : List Value} {x : Int64}, lsc[i]? = some (.val (.long x)) → W p l e R s m args below meth c H locs cells slots Q (F0 m pc' lsc (.long x :: rest)) → W p l e R s m args below meth c H locs cells slots Q (F0 m pc lsc rest))
    (h : ldL ls i pc' st mm = some (.inl nxt)) (k : WG p l e R s m args below meth c Q D dA A sg nL N0 S0 ad nxt) : WG p l e R s m args below meth c Q D dA A sg nL N0 S0 ad (pc, ls, st, mm) := by
  unfold ldL at h
  split at h
  next x hx =>
    cases nx_inj h
    intro H locs lsc cells slots hr
    exact row (hr.2.2.2.2.1.2.2.2 i _ hx) (k H locs lsc cells slots (hr.stk (ok_push (hr.2.2.2.2.2.1 i _ hx) hr.oks)))
  next => cases h
theorem sn_ldA {i pc' : Nat} (row : ∀ {H : Heap} {locs : List Loc} {cells slots : Nat} {lsc : Array Slot} {rest : List Value} {x : Nat}, lsc[i]? = some (.val (.ref x)) → W p l e R s m args below meth c H locs cells slots Q (F0 m pc' lsc (.ref x :: rest)) → W p l e R s m args below meth c H locs cells slots Q (F0 m pc lsc rest))
    (h : ldA ls i pc' st mm = some (.inl nxt)) (k : WG p l e R s m args below meth c Q D dA A sg nL N0 S0 ad nxt) : WG p l e R s m args below meth c Q D dA A sg nL N0 S0 ad (pc, ls, st, mm) := by
  unfold ldA at h
  split at h
  next x hx =>
    cases nx_inj h
    intro H locs lsc cells slots hr
    exact row (hr.2.2.2.2.1.2.2.2 i _ hx) (k H locs lsc cells slots (hr.stk (ok_push (hr.2.2.2.2.2.1 i _ hx) hr.oks)))
  next => cases h
/-- stores -/
theorem okl_set {N : Nat} {ls' : ALs} {i : Nat} {v : AV} (hs : setL ls i v = some ls') (hv : okv N sg v) (h : ∀ k v, nth ls k none = some v → okv N sg v) : ∀ k v, nth ls' k none = some v → okv N sg v := by
  obtain ⟨-, -, s3, s4, s5⟩ := setL_spec hs
  intro j w hw
  by_cases hj : j = i
  · subst hj; rw [s3] at hw; cases hw; exact hv
  · by_cases hj2 : j + 1 = i
    · rw [s4 j hj2] at hw; exact h j w (kl_some hw).1
    · rw [s5 j hj hj2] at hw; exact h j w hw
theorem okl_setW {N : Nat} {ls' : ALs} {i : Nat} {v : AV} (hs : setW ls i v = some ls') (hv : okv N sg v) (h : ∀ k v, nth ls k none = some v → okv N sg v) : ∀ k v, nth ls' k none = some v → okv N sg v := by
  obtain ⟨-, -, s3, s3b, s4, s5⟩ := setW_spec hs
  intro j w hw
  by_cases hj : j = i
  · subst hj; rw [s3] at hw; cases hw; exact hv
  · by_cases hj1 : j = i + 1
    · rw [hj1, s3b] at hw; cases hw
    · by_cases hj2 : j + 1 = i
      · rw [s4 j hj2] at hw; exact h j w (kl_some hw).1
      · rw [s5 j hj hj1 hj2] at hw; exact h j w hw
theorem sn_stI {i pc' : Nat} (row : ∀ {H : Heap} {locs : List Loc} {cells slots : Nat} {lsc : Array Slot} {rest : List Value} {x : Int32} {lv lv' : List (Nat × Value)}, lv_has lsc nL lv → i < nL → (i, Value.int x) :: lv.filter (fun q => !(q.1 == i) && !(q.1 + 1 == i && q.2.category == 2)) = lv' → (∀ ls' : Array Slot, lv_has ls' nL lv' → W p l e R s m args below meth c H locs cells slots Q (F0 m pc' ls' rest)) → W p l e R s m args below meth c H locs cells slots Q (F0 m pc lsc (.int x :: rest)))
    (h : stI ls i pc' st mm = some (.inl nxt)) (k : WG p l e R s m args below meth c Q D dA A sg nL N0 S0 ad nxt) : WG p l e R s m args below meth c Q D dA A sg nL N0 S0 ad (pc, ls, st, mm) := by
  unfold stI at h
  split at h
  next x r =>
    split at h
    next ls' hs =>
      cases nx_inj h
      intro H locs lsc cells slots hr
      have hi := (setL_spec hs).1
      rw [hr.2.2.2.2.1.2.2.1] at hi
      refine row (LR_has hr.2.2.2.2.1) hi rfl (fun lsc' hl => k H locs lsc' cells slots ?_)
      exact ⟨hr.1, hr.2.1, hr.2.2.1, hr.2.2.2.1, LR_set hr.2.2.2.2.1 hs hl, okl_set hs (ok_hd hr.oks) hr.2.2.2.2.2.1, ok_tl hr.oks, hr.2.2.2.2.2.2.2⟩
    next => cases h
  next => cases h
theorem sn_stA {i pc' : Nat} (row : ∀ {H : Heap} {locs : List Loc} {cells slots : Nat} {lsc : Array Slot} {rest : List Value} {x : Nat} {lv lv' : List (Nat × Value)}, lv_has lsc nL lv → i < nL → (i, Value.ref x) :: lv.filter (fun q => !(q.1 == i) && !(q.1 + 1 == i && q.2.category == 2)) = lv' → (∀ ls' : Array Slot, lv_has ls' nL lv' → W p l e R s m args below meth c H locs cells slots Q (F0 m pc' ls' rest)) → W p l e R s m args below meth c H locs cells slots Q (F0 m pc lsc (.ref x :: rest)))
    (h : stA ls i pc' st mm = some (.inl nxt)) (k : WG p l e R s m args below meth c Q D dA A sg nL N0 S0 ad nxt) : WG p l e R s m args below meth c Q D dA A sg nL N0 S0 ad (pc, ls, st, mm) := by
  unfold stA at h
  split at h
  next x r =>
    split at h
    next ls' hs =>
      cases nx_inj h
      intro H locs lsc cells slots hr
      have hi := (setL_spec hs).1
      rw [hr.2.2.2.2.1.2.2.1] at hi
      refine row (LR_has hr.2.2.2.2.1) hi rfl (fun lsc' hl => k H locs lsc' cells slots ?_)
      exact ⟨hr.1, hr.2.1, hr.2.2.1, hr.2.2.2.1, LR_set hr.2.2.2.2.1 hs hl, okl_set hs (ok_hd hr.oks) hr.2.2.2.2.2.1, ok_tl hr.oks, hr.2.2.2.2.2.2.2⟩
    next => cases h
  next => cases h
theorem sn_stL {i pc' : Nat} (row : ∀ {H : Heap} {locs : List Loc} {cells slots : Nat} {lsc : Array Slot} {rest : List Value} {x : Int64} {lv lv' : List (Nat × Value)}, lv_has lsc nL lv → i + 1 < nL → (i, Value.long x) :: lv.filter (fun q => !(q.1 == i) && (!(q.1 == i + 1) && !(q.1 + 1 == i && q.2.category == 2))) = lv' → (∀ ls' : Array Slot, lv_has ls' nL lv' → W p l e R s m args below meth c H locs cells slots Q (F0 m pc' ls' rest)) → W p l e R s m args below meth c H locs cells slots Q (F0 m pc lsc (.long x :: rest)))
    (h : stL ls i pc' st mm = some (.inl nxt)) (k : WG p l e R s m args below meth c Q D dA A sg nL N0 S0 ad nxt) : WG p l e R s m args below meth c Q D dA A sg nL N0 S0 ad (pc, ls, st, mm) := by
  unfold stL at h
  split at h
  next x r =>
    split at h
    next ls' hs =>
      cases nx_inj h
      intro H locs lsc cells slots hr
      have hi := (setW_spec hs).1
      rw [hr.2.2.2.2.1.2.2.1] at hi
      refine row (LR_has hr.2.2.2.2.1) hi rfl (fun lsc' hl => k H locs lsc' cells slots ?_)
      exact ⟨hr.1, hr.2.1, hr.2.2.1, hr.2.2.2.1, LR_setW hr.2.2.2.2.1 hs hl, okl_setW hs (ok_hd hr.oks) hr.2.2.2.2.2.1, ok_tl hr.oks, hr.2.2.2.2.2.2.2⟩
    next => cases h
  next => cases h
theorem sn_iinc (C : Cx p s m args meth c D dA A M) {i : Nat} {n : Int} (hd : decode (minf M).2.1 pc = .ok (.iinc i n, 3)) (h : (match nth ls i none with
    | some (.inl x) => (match setL ls i (vi (w32 (x + n))) with
      | some ls' => nx (pc + 3) ls' st mm
      | none => none)
    | _ => none) = some (.inl nxt)) (hn : i32 n) (k : WG p l e R s m args below meth c Q D dA A sg nL N0 S0 ad nxt) : WG p l e R s m args below meth c Q D dA A sg nL N0 S0 ad (pc, ls, st, mm) := by
  split at h
  next x hx =>
    split at h
    next ls' hs =>
      cases nx_inj h
      intro H locs lsc cells slots hr
      have hi := (setL_spec hs).1
      rw [hr.2.2.2.2.1.2.2.1] at hi
      have hm : ((i, Value.int (Int32.ofInt x)) : Nat × Value) ∈ asc ad ls := asc_mem.mpr ⟨_, hx, rfl⟩
      obtain ⟨k0, hk0⟩ := List.getElem?_of_mem hm
      refine lv_iinc (v := Int32.ofInt (w32 (x + n))) C.1 C.2.1 hd (LR_has hr.2.2.2.2.1) hk0 (o_add (hr.2.2.2.2.2.1 i _ hx) hn) hi rfl (fun lsc' hl => k H locs lsc' cells slots ?_)
      exact ⟨hr.1, hr.2.1, hr.2.2.1, hr.2.2.2.1, LR_set hr.2.2.2.2.1 hs hl, okl_set hs (w32_in _) hr.2.2.2.2.2.1, hr.oks, hr.2.2.2.2.2.2.2⟩
    next => cases h
  next => cases h
/-- two ints to one -/
theorem sn_bnI {f : Int → Int → Int} {g : Int32 → Int32 → Int32} (row : ∀ {H : Heap} {locs : List Loc} {cells slots : Nat} {lsc : Array Slot} {rest : List Value} {x y : Int32}, W p l e R s m args below meth c H locs cells slots Q (F0 m (pc + 1) lsc (.int (g x y) :: rest)) → W p l e R s m args below meth c H locs cells slots Q (F0 m pc lsc (.int y :: .int x :: rest)))
    (hg : ∀ x y, i32 x → i32 y → g (Int32.ofInt x) (Int32.ofInt y) = Int32.ofInt (f x y)) (hf : ∀ x y, i32 x → i32 y → i32 (f x y)) (h : bnI f pc ls st mm = some (.inl nxt)) (k : WG p l e R s m args below meth c Q D dA A sg nL N0 S0 ad nxt) : WG p l e R s m args below meth c Q D dA A sg nL N0 S0 ad (pc, ls, st, mm) := by
  unfold bnI at h
  split at h
  next y x r =>
    cases nx_inj h
    intro H locs lsc cells slots hr
    have hy : i32 y := ok_hd hr.oks
    have hx : i32 x := ok_hd (ok_tl hr.oks)
    refine row (x := Int32.ofInt x) (y := Int32.ofInt y) ?_
    rw [hg x y hx hy]
    exact k H locs lsc cells slots (hr.stk (ok_push (hf x y hx hy) (ok_tl (ok_tl hr.oks))))
  next => cases h
theorem sn_bnD {f : Int → Int → Int} {g : Int32 → Int32 → Int32} (row : ∀ {H : Heap} {locs : List Loc} {cells slots : Nat} {lsc : Array Slot} {rest : List Value} {x y : Int32}, ¬ y = 0 → W p l e R s m args below meth c H locs cells slots Q (F0 m (pc + 1) lsc (.int (g x y) :: rest)) → W p l e R s m args below meth c H locs cells slots Q (F0 m pc lsc (.int y :: .int x :: rest)))
    (hg : ∀ x y, i32 x → i32 y → g (Int32.ofInt x) (Int32.ofInt y) = Int32.ofInt (f x y)) (hf : ∀ x y, i32 x → i32 y → i32 (f x y)) (h : bnD f pc ls st mm = some (.inl nxt)) (k : WG p l e R s m args below meth c Q D dA A sg nL N0 S0 ad nxt) : WG p l e R s m args below meth c Q D dA A sg nL N0 S0 ad (pc, ls, st, mm) := by
  unfold bnD at h
  split at h
  next y x r =>
    split at h
    next => cases h
    next hne =>
      cases nx_inj h
      intro H locs lsc cells slots hr
      have hy : i32 y := ok_hd hr.oks
      have hx : i32 x := ok_hd (ok_tl hr.oks)
      refine row (x := Int32.ofInt x) (y := Int32.ofInt y) (by rw [o_zero, o_eq hy i32_0]; exact hne) ?_
      rw [hg x y hx hy]
      exact k H locs lsc cells slots (hr.stk (ok_push (hf x y hx hy) (ok_tl (ok_tl hr.oks))))
  next => cases h
theorem sn_bnL {f : Int → Int → Int} {g : Int64 → Int64 → Int64} (row : ∀ {H : Heap} {locs : List Loc} {cells slots : Nat} {lsc : Array Slot} {rest : List Value} {x y : Int64}, W p l e R s m args below meth c H locs cells slots Q (F0 m (pc + 1) lsc (.long (g x y) :: rest)) → W p l e R s m args below meth c H locs cells slots Q (F0 m pc lsc (.long y :: .long x :: rest)))
    (hg : ∀ x y, i64 x → i64 y → g (Int64.ofInt x) (Int64.ofInt y) = Int64.ofInt (f x y)) (hf : ∀ x y, i64 x → i64 y → i64 (f x y)) (h : bnL f pc ls st mm = some (.inl nxt)) (k : WG p l e R s m args below meth c Q D dA A sg nL N0 S0 ad nxt) : WG p l e R s m args below meth c Q D dA A sg nL N0 S0 ad (pc, ls, st, mm) := by
  unfold bnL at h
  split at h
  next y x r =>
    cases nx_inj h
    intro H locs lsc cells slots hr
    have hy : i64 y := ok_hd hr.oks
    have hx : i64 x := ok_hd (ok_tl hr.oks)
    refine row (x := Int64.ofInt x) (y := Int64.ofInt y) ?_
    rw [hg x y hx hy]
    exact k H locs lsc cells slots (hr.stk (ok_push (hf x y hx hy) (ok_tl (ok_tl hr.oks))))
  next => cases h
theorem sn_bnM {f : Int → Int → Int} {g : Int64 → Int64 → Int64} (row : ∀ {H : Heap} {locs : List Loc} {cells slots : Nat} {lsc : Array Slot} {rest : List Value} {x y : Int64}, ¬ y = 0 → W p l e R s m args below meth c H locs cells slots Q (F0 m (pc + 1) lsc (.long (g x y) :: rest)) → W p l e R s m args below meth c H locs cells slots Q (F0 m pc lsc (.long y :: .long x :: rest)))
    (hg : ∀ x y, i64 x → i64 y → g (Int64.ofInt x) (Int64.ofInt y) = Int64.ofInt (f x y)) (hf : ∀ x y, i64 x → i64 y → i64 (f x y)) (h : bnM f pc ls st mm = some (.inl nxt)) (k : WG p l e R s m args below meth c Q D dA A sg nL N0 S0 ad nxt) : WG p l e R s m args below meth c Q D dA A sg nL N0 S0 ad (pc, ls, st, mm) := by
  unfold bnM at h
  split at h
  next y x r =>
    split at h
    next => cases h
    next hne =>
      cases nx_inj h
      intro H locs lsc cells slots hr
      have hy : i64 y := ok_hd hr.oks
      have hx : i64 x := ok_hd (ok_tl hr.oks)
      refine row (x := Int64.ofInt x) (y := Int64.ofInt y) (by rw [ol_zero, ol_eq hy i64_0]; exact hne) ?_
      rw [hg x y hx hy]
      exact k H locs lsc cells slots (hr.stk (ok_push (hf x y hx hy) (ok_tl (ok_tl hr.oks))))
  next => cases h
/-- branches -/
theorem jmp_eq {pc : Nat} {off : Int} (h : 0 ≤ (pc : Int) + off) : (pc : Int) + off = ((jmp pc off : Nat) : Int) := by
  unfold jmp
  omega
theorem sn_br2 {off : Int} {cb : Int → Int → Bool} {P : Int32 → Int32 → Prop} (ht : 0 ≤ (pc : Int) + off) (row : ∀ {H : Heap} {locs : List Loc} {cells slots : Nat} {lsc : Array Slot} {rest : List Value} {x y : Int32}, (P x y → W p l e R s m args below meth c H locs cells slots Q (F0 m (jmp pc off) lsc rest)) → (¬ P x y → W p l e R s m args below meth c H locs cells slots Q (F0 m (pc + 3) lsc rest)) → W p l e R s m args below meth c H locs cells slots Q (F0 m pc lsc (.int y :: .int x :: rest)))
    (hP : ∀ x y, i32 x → i32 y → (P (Int32.ofInt x) (Int32.ofInt y) ↔ cb x y = true)) (h : br2 cb pc off ls st mm = some (.inl nxt)) (k : WG p l e R s m args below meth c Q D dA A sg nL N0 S0 ad nxt) : WG p l e R s m args below meth c Q D dA A sg nL N0 S0 ad (pc, ls, st, mm) := by
  unfold br2 at h
  split at h
  next y x r =>
    cases nx_inj h
    intro H locs lsc cells slots hr
    have hy : i32 y := ok_hd hr.oks
    have hx : i32 x := ok_hd (ok_tl hr.oks)
    have k2 := k H locs lsc cells slots (hr.stk (ok_tl (ok_tl hr.oks)))
    refine row (x := Int32.ofInt x) (y := Int32.ofInt y) (fun q => ?_) (fun q => ?_)
    · have q2 := (hP x y hx hy).mp q
      dsimp only at k2
      rw [q2] at k2
      exact k2
    · have q2 : cb x y = false := by
        cases hq : cb x y with
        | false => rfl
        | true => exact absurd ((hP x y hx hy).mpr hq) q
      dsimp only at k2
      rw [q2] at k2
      exact k2
  next => cases h
theorem sn_br1 {off : Int} {cb : Int → Bool} {P : Int32 → Prop} (ht : 0 ≤ (pc : Int) + off) (row : ∀ {H : Heap} {locs : List Loc} {cells slots : Nat} {lsc : Array Slot} {rest : List Value} {x : Int32}, (P x → W p l e R s m args below meth c H locs cells slots Q (F0 m (jmp pc off) lsc rest)) → (¬ P x → W p l e R s m args below meth c H locs cells slots Q (F0 m (pc + 3) lsc rest)) → W p l e R s m args below meth c H locs cells slots Q (F0 m pc lsc (.int x :: rest)))
    (hP : ∀ x, i32 x → (P (Int32.ofInt x) ↔ cb x = true)) (h : br1 cb pc off ls st mm = some (.inl nxt)) (k : WG p l e R s m args below meth c Q D dA A sg nL N0 S0 ad nxt) : WG p l e R s m args below meth c Q D dA A sg nL N0 S0 ad (pc, ls, st, mm) := by
  unfold br1 at h
  split at h
  next x r =>
    cases nx_inj h
    intro H locs lsc cells slots hr
    have hx : i32 x := ok_hd hr.oks
    have k2 := k H locs lsc cells slots (hr.stk (ok_tl hr.oks))
    refine row (x := Int32.ofInt x) (fun q => ?_) (fun q => ?_)
    · have q2 := (hP x hx).mp q
      dsimp only at k2
      rw [q2] at k2
      exact k2
    · have q2 : cb x = false := by
        cases hq : cb x with
        | false => rfl
        | true => exact absurd ((hP x hx).mpr hq) q
      dsimp only at k2
      rw [q2] at k2
      exact k2
  next => cases h
end ST
