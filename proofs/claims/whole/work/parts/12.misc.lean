/-! ALL INSTRUCTIONS TOGETHER -/
def lnI (i : Instr) : Nat := match i with
  | .bipush _ => 2
  | .sipush _ => 3
  | .ldc _ => 2
  | .ldc_w _ => 3
  | .ldc2_w _ => 3
  | .iload _ => 2
  | .lload _ => 2
  | .aload _ => 2
  | .istore _ => 2
  | .lstore _ => 2
  | .astore _ => 2
  | .iinc _ _ => 3
  | .if_icmp _ _ => 3
  | .ifCond _ _ => 3
  | .goto _ => 3
  | .getfield _ => 3
  | .putfield _ => 3
  | .new _ => 3
  | .newarray _ => 2
  | .anewarray _ => 3
  | .invokestatic _ => 3
  | .invokevirtual _ => 3
  | .invokespecial _ => 3
  | .tableswitch _ _ _ _ => 0
  | .lookupswitch _ _ => 0
  | _ => 1
def lnOK (o : Option INS) : Bool := match o with
  | none => true
  | some q => Nat.beq (lnI q.1) 0 || Nat.beq q.2.1 (lnI q.1)
theorem ck_len : (tab.all fun g => g.all fun t => t.all fun c => c.all lnOK) = true := by decide +kernel
def incOK (o : Option INS) : Bool := match o with
  | some (.iinc _ n, _) => decide (-32768 ≤ n) && decide (n ≤ 32767)
  | _ => true
theorem ck_inc : (tab.all fun g => g.all fun t => t.all fun c => c.all incOK) = true := by decide +kernel
theorem all_nth {α : Type} {P : α → Bool} : ∀ {l : List α} {k : Nat} {d : α}, l.all P = true → P d = true → P (nth l k d) = true
  | [], k, d, _, h => by rw [nth_nil]; exact h
  | a :: t, 0, d, h, _ => by simp only [List.all_cons, Bool.and_eq_true] at h; exact h.1
  | a :: t, n + 1, d, h, h2 => by simp only [List.all_cons, Bool.and_eq_true] at h; exact all_nth (l := t) h.2 h2
theorem fetch_len {M pc : Nat} {q : INS} (h : fetch M pc = some q) : lnI q.1 = 0 ∨ q.2.1 = lnI q.1 := by
  have q1 : ((nth tab (M / 14) []).all fun t => t.all fun c => c.all lnOK) = true := all_nth (P := fun (g : List (List (List (Option INS)))) => g.all fun t => t.all fun c => c.all lnOK) ck_len rfl
  have q2 : ((nth (nth tab (M / 14) []) (M % 14) []).all fun c => c.all lnOK) = true := all_nth (P := fun (t : List (List (Option INS))) => t.all fun c => c.all lnOK) q1 rfl
  have q3 : ((nth (nth (nth tab (M / 14) []) (M % 14) []) (pc / 16) []).all lnOK) = true := all_nth (P := fun (c : List (Option INS)) => c.all lnOK) q2 rfl
  have h1 : lnOK (fetch M pc) = true := all_nth q3 rfl
  rw [h] at h1
  simp only [lnOK, Bool.or_eq_true] at h1
  exact h1.imp Nat.eq_of_beq_eq_true Nat.eq_of_beq_eq_true
theorem fetch_inc {M pc i len : Nat} {n : Int} {z : Nat × Nat × Int} (h : fetch M pc = some (.iinc i n, len, z)) : i32 n := by
  have q1 : ((nth tab (M / 14) []).all fun t => t.all fun c => c.all incOK) = true := all_nth (P := fun (g : List (List (List (Option INS)))) => g.all fun t => t.all fun c => c.all incOK) ck_inc rfl
  have q2 : ((nth (nth tab (M / 14) []) (M % 14) []).all fun c => c.all incOK) = true := all_nth (P := fun (t : List (List (Option INS))) => t.all fun c => c.all incOK) q1 rfl
  have q3 : ((nth (nth (nth tab (M / 14) []) (M % 14) []) (pc / 16) []).all incOK) = true := all_nth (P := fun (c : List (Option INS)) => c.all incOK) q2 rfl
  have h1 : incOK (fetch M pc) = true := all_nth q3 rfl
  rw [h] at h1
  simp only [incOK, Bool.and_eq_true, decide_eq_true_eq] at h1
  exact ⟨by omega, by omega⟩
theorem exNew_N {a pc : Nat} {ls : ALs} {st : List AV} {mm : AMem} {o : ROut} (h : exNew a pc ls st mm = some o) : mm.2.1 < NTOT := by
  unfold exNew at h
  cases hbq : (Nat.ble (mm.2.1 + 1) NTOT && Nat.ble a 4) with
  | false => rw [hbq] at h; cases h
  | true => simp only [Bool.and_eq_true] at hbq; exact Nat.le_of_ble_eq_true hbq.1
theorem exNewI_N {a pc : Nat} {ls : ALs} {st : List AV} {mm : AMem} {o : ROut} (h : exNewI a pc ls st mm = some o) : mm.2.1 < NTOT := by
  unfold exNewI at h
  split at h
  next =>
    cases hbq : Nat.ble (mm.2.1 + 1) NTOT with
    | false => rw [hbq] at h; cases h
    | true => exact Nat.le_of_ble_eq_true hbq
  next => cases h
theorem exNewA_N {a pc : Nat} {ls : ALs} {st : List AV} {mm : AMem} {o : ROut} (h : exNewA a pc ls st mm = some o) : mm.2.1 < NTOT := by
  unfold exNewA at h
  split at h
  next =>
    cases hbq : Nat.ble (mm.2.1 + 1) NTOT with
    | false => rw [hbq] at h; cases h
    | true => exact Nat.le_of_ble_eq_true hbq
  next => cases h
theorem call_inl {kind M M' pc : Nat} {st : List AV} {mm : AMem} {nxt : Nat × ALs × List AV × AMem} (h : exCall kind M M' pc st mm = some (.inl nxt)) : False := by
  unfold exCall at h
  cases hb : (Nat.ble (minf M').2.2.2.2.1 st.length && Nat.beq (minf M').2.2.2.2.2.1 kind && Nat.ble (st.drop (minf M').2.2.2.2.1).length 4 && (Nat.ble 1 M || (st.take (minf M').2.2.2.2.1).all noScr)
    && (!(Nat.beq kind 1) || recvOk mm (minf M').2.2.2.2.2.2 (st.take (minf M').2.2.2.2.1).getLast?) && Nat.ble (entL (st.take (minf M').2.2.2.2.1).reverse).length (minf M').2.2.1 && (!(Nat.beq kind 2) || isRf (st.take (minf M').2.2.2.2.1).getLast?)) with
  | false => rw [hb] at h; cases h
  | true => rw [hb] at h; cases h
theorem b_in (x y : Int) : i32 (i_and x y) ∧ i32 (i_or x y) ∧ i32 (i_xor x y) ∧ i32 (i_shl x y) ∧ i32 (i_shr x y) ∧ i32 (i_ushr x y) := ⟨i32_of _, i32_of _, i32_of _, i32_of _, i32_of _, i32_of _⟩
theorem lk_off : ∀ {ps : List (Int × Int)} {dflt x : Int} {pc : Nat}, 0 ≤ (pc : Int) + dflt → (ps.all fun o => decide (0 ≤ (pc : Int) + o.2)) = true → 0 ≤ (pc : Int) + Op.lookupswitch.offset ps dflt x
  | [], dflt, x, pc, h, _ => by
    unfold Op.lookupswitch.offset
    exact h
  | (a, b) :: t, dflt, x, pc, h, h2 => by
    simp only [List.all_cons, Bool.and_eq_true] at h2
    unfold Op.lookupswitch.offset
    split
    · exact of_decide_eq_true h2.1
    · exact lk_off h h2.2
section MS
variable {p : Program} {l : Launch} {e : Env} {R : Room} {s : State} {m : MethodId} {args : Array Value} {below : List Frame} {meth : Method} {c : Code} {Q : State → Prop} {D : va_G} {dA : Nat → ClassId} {A : Nat → Prop} {sg : Bool} {nL N0 S0 M : Nat} {ad : AK → Nat} {pc : Nat} {ls : ALs} {st : List AV} {mm : AMem} {nxt : Nat × ALs × List AV × AMem}
theorem sn_ineg (C : Cx p s m args meth c D dA A M) (hd : decode (minf M).2.1 pc = .ok (.ineg, 1)) (h : (match st with
    | .inl x :: r => nx (pc + 1) ls (vi (w32 (-x)) :: r) mm
    | _ => none) = some (.inl nxt)) (k : WG p l e R s m args below meth c Q D dA A sg nL N0 S0 ad nxt) : WG p l e R s m args below meth c Q D dA A sg nL N0 S0 ad (pc, ls, st, mm) := by
  split at h
  next x r =>
    cases nx_inj h
    intro H locs lsc cells slots hr
    have hx : i32 x := ok_hd hr.oks
    refine lv_ineg C.1 C.2.1 hd ?_
    rw [o_neg hx]
    exact k H locs lsc cells slots (hr.stk (ok_push (w32_in _) (ok_tl hr.oks)))
  next => cases h
theorem sn_lcmp (C : Cx p s m args meth c D dA A M) (hd : decode (minf M).2.1 pc = .ok (.lcmp, 1)) (h : (match st with
    | .inr (.inl y) :: .inr (.inl x) :: r => nx (pc + 1) ls (vi (l_cmp x y) :: r) mm
    | _ => none) = some (.inl nxt)) (k : WG p l e R s m args below meth c Q D dA A sg nL N0 S0 ad nxt) : WG p l e R s m args below meth c Q D dA A sg nL N0 S0 ad (pc, ls, st, mm) := by
  split at h
  next y x r =>
    cases nx_inj h
    intro H locs lsc cells slots hr
    have hy : i64 y := ok_hd hr.oks
    have hx : i64 x := ok_hd (ok_tl hr.oks)
    refine W.lcmp C.1 C.2.1 hd ?_
    rw [o_cmp hx hy]
    exact k H locs lsc cells slots (hr.stk (ok_push (l_cmp_in _ _) (ok_tl (ok_tl hr.oks))))
  next => cases h
theorem sn_i2l (C : Cx p s m args meth c D dA A M) (hd : decode (minf M).2.1 pc = .ok (.i2l, 1)) (h : (match st with
    | .inl x :: r => nx (pc + 1) ls (vl x :: r) mm
    | _ => none) = some (.inl nxt)) (k : WG p l e R s m args below meth c Q D dA A sg nL N0 S0 ad nxt) : WG p l e R s m args below meth c Q D dA A sg nL N0 S0 ad (pc, ls, st, mm) := by
  split at h
  next x r =>
    cases nx_inj h
    intro H locs lsc cells slots hr
    have hx : i32 x := ok_hd hr.oks
    exact lv_i2l C.1 C.2.1 hd (o_i2l hx) (k H locs lsc cells slots (hr.stk (ok_push (show i64 x from i32_wide hx) (ok_tl hr.oks))))
  next => cases h
theorem sn_l2i (C : Cx p s m args meth c D dA A M) (hd : decode (minf M).2.1 pc = .ok (.l2i, 1)) (h : (match st with
    | .inr (.inl x) :: r => nx (pc + 1) ls (vi (w32 x) :: r) mm
    | _ => none) = some (.inl nxt)) (k : WG p l e R s m args below meth c Q D dA A sg nL N0 S0 ad nxt) : WG p l e R s m args below meth c Q D dA A sg nL N0 S0 ad (pc, ls, st, mm) := by
  split at h
  next x r =>
    cases nx_inj h
    intro H locs lsc cells slots hr
    have hx : i64 x := ok_hd hr.oks
    exact lv_l2i C.1 C.2.1 hd (o_l2i hx) (k H locs lsc cells slots (hr.stk (ok_push (w32_in _) (ok_tl hr.oks))))
  next => cases h
theorem sn_i2b (C : Cx p s m args meth c D dA A M) (hd : decode (minf M).2.1 pc = .ok (.i2b, 1)) (h : (match st with
    | .inl x :: r => nx (pc + 1) ls (vi (w8 x) :: r) mm
    | _ => none) = some (.inl nxt)) (k : WG p l e R s m args below meth c Q D dA A sg nL N0 S0 ad nxt) : WG p l e R s m args below meth c Q D dA A sg nL N0 S0 ad (pc, ls, st, mm) := by
  split at h
  next x r =>
    cases nx_inj h
    intro H locs lsc cells slots hr
    have hx : i32 x := ok_hd hr.oks
    exact lv_i2b C.1 C.2.1 hd (o_i2b hx) (k H locs lsc cells slots (hr.stk (ok_push (show i32 _ from ⟨by have := (w8_in x).1; omega, by have := (w8_in x).2; omega⟩) (ok_tl hr.oks))))
  next => cases h
theorem sn_dup (C : Cx p s m args meth c D dA A M) (hd : decode (minf M).2.1 pc = .ok (.dup, 1)) (h : (match st with
    | .inl x :: r => nx (pc + 1) ls (vi x :: vi x :: r) mm
    | .inr (.inr (some k)) :: r => nx (pc + 1) ls (vr k.1 k.2 :: vr k.1 k.2 :: r) mm
    | _ => none) = some (.inl nxt)) (k : WG p l e R s m args below meth c Q D dA A sg nL N0 S0 ad nxt) : WG p l e R s m args below meth c Q D dA A sg nL N0 S0 ad (pc, ls, st, mm) := by
  split at h
  next x r =>
    cases nx_inj h
    intro H locs lsc cells slots hr
    exact lv_dup (va := cv ad (vi x)) C.1 C.2.1 hd rfl (k H locs lsc cells slots (hr.stk (ok_push (ok_hd hr.oks) hr.oks)))
  next k0 r =>
    cases nx_inj h
    intro H locs lsc cells slots hr
    exact lv_dup (va := cv ad (vr k0.1 k0.2)) C.1 C.2.1 hd rfl (k H locs lsc cells slots (hr.stk (ok_push (ok_hd hr.oks) hr.oks)))
  next => cases h
theorem sn_dup2 (C : Cx p s m args meth c D dA A M) (hd : decode (minf M).2.1 pc = .ok (.dup2, 1)) (h : (match st with
    | .inl y :: .inr (.inr (some k)) :: r => nx (pc + 1) ls (vi y :: vr k.1 k.2 :: vi y :: vr k.1 k.2 :: r) mm
    | _ => none) = some (.inl nxt)) (k : WG p l e R s m args below meth c Q D dA A sg nL N0 S0 ad nxt) : WG p l e R s m args below meth c Q D dA A sg nL N0 S0 ad (pc, ls, st, mm) := by
  split at h
  next y k0 r =>
    cases nx_inj h
    intro H locs lsc cells slots hr
    exact lv_dup2_11 (va := cv ad (vi y)) (vb := cv ad (vr k0.1 k0.2)) C.1 C.2.1 hd rfl rfl (k H locs lsc cells slots (hr.stk (ok_push (ok_hd hr.oks) (ok_push (ok_hd (ok_tl hr.oks)) hr.oks))))
  next => cases h
theorem sn_pop (C : Cx p s m args meth c D dA A M) (hd : decode (minf M).2.1 pc = .ok (.pop, 1)) (h : (match st with
    | .inl _ :: r => nx (pc + 1) ls r mm
    | _ => none) = some (.inl nxt)) (k : WG p l e R s m args below meth c Q D dA A sg nL N0 S0 ad nxt) : WG p l e R s m args below meth c Q D dA A sg nL N0 S0 ad (pc, ls, st, mm) := by
  split at h
  next x r =>
    cases nx_inj h
    intro H locs lsc cells slots hr
    exact lv_pop (va := cv ad (vi x)) C.1 C.2.1 hd rfl (k H locs lsc cells slots (hr.stk (ok_tl hr.oks)))
  next => cases h
theorem sn_goto (C : Cx p s m args meth c D dA A M) {off : Int} (hd : decode (minf M).2.1 pc = .ok (.goto off, 3)) (ht : 0 ≤ (pc : Int) + off) (h : nx (jmp pc off) ls st mm = some (.inl nxt)) (k : WG p l e R s m args below meth c Q D dA A sg nL N0 S0 ad nxt) : WG p l e R s m args below meth c Q D dA A sg nL N0 S0 ad (pc, ls, st, mm) := by
  cases nx_inj h
  intro H locs lsc cells slots hr
  exact lv_goto C.1 C.2.1 hd (jmp_eq ht) (k H locs lsc cells slots hr)
theorem nth_get {α : Type} : ∀ {l : List α} {k : Nat} {d : α}, k < l.length → l[k]? = some (nth l k d)
  | [], k, d, h => by simp at h
  | a :: t, 0, d, _ => rfl
  | a :: t, n + 1, d, h => by
    simp only [List.length_cons] at h
    rw [List.getElem?_cons_succ]
    exact nth_get (by omega)
theorem sn_table (C : Cx p s m args meth c D dA A M) {dflt lo hi : Int} {offs : Array Int} {len : Nat} (hd : decode (minf M).2.1 pc = .ok (.tableswitch dflt lo hi offs, len)) (h1 : 0 ≤ (pc : Int) + dflt) (h2 : (offs.toList.all fun o => decide (0 ≤ (pc : Int) + o)) = true) (h3 : hi - lo + 1 = (offs.toList.length : Int))
    (h : (match st with
    | .inl x :: r => nx (jmp pc (if x < lo ∨ hi < x then dflt else nth offs.toList (x - lo).toNat 0)) ls r mm
    | _ => none) = some (.inl nxt)) (k : WG p l e R s m args below meth c Q D dA A sg nL N0 S0 ad nxt) : WG p l e R s m args below meth c Q D dA A sg nL N0 S0 ad (pc, ls, st, mm) := by
  split at h
  next x r =>
    cases nx_inj h
    intro H locs lsc cells slots hr
    have hx : i32 x := ok_hd hr.oks
    have k2 := k H locs lsc cells slots (hr.stk (ok_tl hr.oks))
    dsimp only at k2
    by_cases hc : x < lo ∨ hi < x
    · rw [if_pos hc] at k2
      exact lv_tableOut C.1 C.2.1 hd (by rw [tI hx]; exact hc) (jmp_eq h1) k2
    · rw [if_neg hc] at k2
      have hl : (x - lo).toNat < offs.toList.length := by omega
      have hg := nth_get (d := 0) hl
      have ho : 0 ≤ (pc : Int) + nth offs.toList (x - lo).toNat 0 := of_decide_eq_true (List.all_eq_true.mp h2 _ (List.mem_of_getElem? hg))
      refine lv_tableIn (off := nth offs.toList (x - lo).toNat 0) C.1 C.2.1 hd (by rw [tI hx]; omega) (by rw [tI hx]; omega) ?_ (jmp_eq ho) k2
      rw [tI hx, ← hg]
      simp
  next => cases h
theorem sn_lookup (C : Cx p s m args meth c D dA A M) {dflt : Int} {ps : Array (Int × Int)} {len : Nat} (hd : decode (minf M).2.1 pc = .ok (.lookupswitch dflt ps, len)) (h1 : 0 ≤ (pc : Int) + dflt) (h2 : (ps.toList.all fun o => decide (0 ≤ (pc : Int) + o.2)) = true) (h3 : (ps.toList.zip (ps.toList.drop 1)).all (fun (a, next) => a.1 < next.1) = true)
    (h : (match st with
    | .inl x :: r => nx (jmp pc (Op.lookupswitch.offset ps.toList dflt x)) ls r mm
    | _ => none) = some (.inl nxt)) (k : WG p l e R s m args below meth c Q D dA A sg nL N0 S0 ad nxt) : WG p l e R s m args below meth c Q D dA A sg nL N0 S0 ad (pc, ls, st, mm) := by
  split at h
  next x r =>
    cases nx_inj h
    intro H locs lsc cells slots hr
    have hx : i32 x := ok_hd hr.oks
    exact lv_lookup C.1 C.2.1 hd h3 (by rw [tI hx]) (jmp_eq (lk_off h1 h2)) (k H locs lsc cells slots (hr.stk (ok_tl hr.oks)))
  next => cases h
end MS
