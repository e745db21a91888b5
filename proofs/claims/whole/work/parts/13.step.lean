/-! A STEP, whatever its instruction -/
theorem ra_int {s : State} {ty : FieldType} {cA cB : ClassId} (h : ty = .int ∨ ty = .boolean) (h1 : va_RA s cA ty) (h2 : va_RA s cB ty) : cA = cB := by
  rcases h with rfl | rfl
  · exact Option.some.inj ((show s.vm.findClass _ = some cA from h1).symm.trans (show s.vm.findClass _ = some cB from h2))
  · exact Option.some.inj ((show s.vm.findClass _ = some cA from h1).symm.trans (show s.vm.findClass _ = some cB from h2))
section DP
variable {p : Program} {l : Launch} {e : Env} {R : Room} {s : State} {m : MethodId} {args : Array Value} {below : List Frame} {meth : Method} {c : Code} {Q : State → Prop} {D : va_G} {dA : Nat → ClassId} {A : Nat → Prop} {sg : Bool} {nL N0 S0 M : Nat} {ad : AK → Nat} {pc : Nat} {ls : ALs} {st : List AV} {mm : AMem} {nxt : Nat × ALs × List AV × AMem}
set_option maxHeartbeats 4000000 in
theorem step_ok (C : Cx p s m args meth c D dA A M) {q : INS} (hf : fetch M pc = some q) (hnL : c.maxLocals = nL) (hsg : 1 ≤ M → sg = false) (hR : 1 ≤ R.frames ∧ 100 ≤ R.locals) (hR0 : mm.2.1 ≤ R.cells + N0 ∧ mm.2.2 ≤ R.slots + S0) (hR1 : nxt.2.2.2.2.1 ≤ R.cells + N0 ∧ nxt.2.2.2.2.2 ≤ R.slots + S0)
    (h : ex M pc ls st mm q = some (.inl nxt)) (k : ∀ ad' : AK → Nat, (∀ j, j < mm.2.1 → ad' (nm j) = ad (nm j)) → ad' (99, 0) = ad (99, 0) → WG p l e R s m args below meth c Q D dA A sg nL N0 S0 ad' nxt) : WG p l e R s m args below meth c Q D dA A sg nL N0 S0 ad (pc, ls, st, mm) := by
  have kk : WG p l e R s m args below meth c Q D dA A sg nL N0 S0 ad nxt := k ad (fun _ _ => rfl) rfl
  obtain ⟨hd, hc⟩ := fetch_ok hf
  have hln := fetch_len hf
  obtain ⟨ins, len, a, b, z⟩ := q
  dsimp only at hd hln
  cases ins with
  | iconst n =>
    replace hln : len = 1 := hln.resolve_left (show ¬ (1 : Nat) = 0 by decide)
    subst hln
    simp only [chkA, Bool.and_eq_true, decide_eq_true_eq] at hc
    exact sn_pushI (lv_iconst C.1 C.2.1 hd rfl) ⟨by omega, by omega⟩ h kk
  | bipush n =>
    replace hln : len = 2 := hln.resolve_left (show ¬ (2 : Nat) = 0 by decide)
    subst hln
    simp only [chkA, Bool.and_eq_true, decide_eq_true_eq] at hc
    exact sn_pushI (lv_bipush C.1 C.2.1 hd (o_bi hc.1 hc.2)) ⟨by omega, by omega⟩ h kk
  | sipush n =>
    replace hln : len = 3 := hln.resolve_left (show ¬ (3 : Nat) = 0 by decide)
    subst hln
    simp only [chkA, Bool.and_eq_true, decide_eq_true_eq] at hc
    exact sn_pushI (lv_sipush C.1 C.2.1 hd (o_si hc.1 hc.2)) ⟨by omega, by omega⟩ h kk
  | lconst n =>
    replace hln : len = 1 := hln.resolve_left (show ¬ (1 : Nat) = 0 by decide)
    subst hln
    have hn : i64 (n.val : Int) := ⟨by omega, by have := n.isLt; omega⟩
    refine sn_pushL (lv_lconst C.1 C.2.1 hd ?_) hn h kk
    have h2 := n.isLt
    apply oL
    rw [Int64.toInt_ofNat_of_lt (by omega)]
  | ldc i =>
    replace hln : len = 2 := hln.resolve_left (show ¬ (2 : Nat) = 0 by decide)
    subst hln
    simp only [chkA, Bool.and_eq_true, decide_eq_true_eq] at hc
    exact sn_pushI (lv_ldc C.1 C.2.1 C.2.2.2.1 (w_at C.2.2.2.2.1 hc.1.1 rfl) hd) ⟨hc.1.2, hc.2⟩ h kk
  | ldc_w i =>
    replace hln : len = 3 := hln.resolve_left (show ¬ (3 : Nat) = 0 by decide)
    subst hln
    simp only [chkA, Bool.and_eq_true, decide_eq_true_eq] at hc
    exact sn_pushI (lv_ldcw C.1 C.2.1 C.2.2.2.1 (w_at C.2.2.2.2.1 hc.1.1 rfl) hd) ⟨hc.1.2, hc.2⟩ h kk
  | ldc2_w i =>
    replace hln : len = 3 := hln.resolve_left (show ¬ (3 : Nat) = 0 by decide)
    subst hln
    simp only [chkA, Bool.and_eq_true, decide_eq_true_eq] at hc
    exact sn_pushL (lv_ldc2 C.1 C.2.1 C.2.2.2.1 (w_at C.2.2.2.2.1 hc.1.1 rfl) hd) ⟨hc.1.2, hc.2⟩ h kk
  | iload i =>
    replace hln : len = 2 := hln.resolve_left (show ¬ (2 : Nat) = 0 by decide)
    subst hln
    exact sn_ldI (fun hl => lv_iload C.1 C.2.1 hd hl) h kk
  | iload_n i =>
    replace hln : len = 1 := hln.resolve_left (show ¬ (1 : Nat) = 0 by decide)
    subst hln
    exact sn_ldI (fun hl => lv_iload_n C.1 C.2.1 hd rfl hl) h kk
  | lload i =>
    replace hln : len = 2 := hln.resolve_left (show ¬ (2 : Nat) = 0 by decide)
    subst hln
    exact sn_ldL (fun hl => lv_lload C.1 C.2.1 hd hl) h kk
  | lload_n i =>
    replace hln : len = 1 := hln.resolve_left (show ¬ (1 : Nat) = 0 by decide)
    subst hln
    exact sn_ldL (fun hl => lv_lload_n C.1 C.2.1 hd rfl hl) h kk
  | aload i =>
    replace hln : len = 2 := hln.resolve_left (show ¬ (2 : Nat) = 0 by decide)
    subst hln
    exact sn_ldA (fun hl => lv_aload C.1 C.2.1 hd hl) h kk
  | aload_n i =>
    replace hln : len = 1 := hln.resolve_left (show ¬ (1 : Nat) = 0 by decide)
    subst hln
    exact sn_ldA (fun hl => lv_aload_n C.1 C.2.1 hd rfl hl) h kk
  | istore i =>
    replace hln : len = 2 := hln.resolve_left (show ¬ (2 : Nat) = 0 by decide)
    subst hln
    exact sn_stI (fun h1 h2 h3 h4 => lv_istore C.1 C.2.1 hd h1 h2 h3 h4) h kk
  | istore_n i =>
    replace hln : len = 1 := hln.resolve_left (show ¬ (1 : Nat) = 0 by decide)
    subst hln
    exact sn_stI (fun h1 h2 h3 h4 => lv_istore_n C.1 C.2.1 hd rfl h1 h2 h3 h4) h kk
  | lstore i =>
    replace hln : len = 2 := hln.resolve_left (show ¬ (2 : Nat) = 0 by decide)
    subst hln
    exact sn_stL (fun h1 h2 h3 h4 => lv_lstore C.1 C.2.1 hd h1 h2 h3 h4) h kk
  | lstore_n i =>
    replace hln : len = 1 := hln.resolve_left (show ¬ (1 : Nat) = 0 by decide)
    subst hln
    exact sn_stL (fun h1 h2 h3 h4 => lv_lstore_n C.1 C.2.1 hd rfl h1 h2 h3 h4) h kk
  | astore i =>
    replace hln : len = 2 := hln.resolve_left (show ¬ (2 : Nat) = 0 by decide)
    subst hln
    exact sn_stA (fun h1 h2 h3 h4 => lv_astore C.1 C.2.1 hd h1 h2 h3 h4) h kk
  | astore_n i =>
    replace hln : len = 1 := hln.resolve_left (show ¬ (1 : Nat) = 0 by decide)
    subst hln
    exact sn_stA (fun h1 h2 h3 h4 => lv_astore_n C.1 C.2.1 hd rfl h1 h2 h3 h4) h kk
  | iinc i n =>
    replace hln : len = 3 := hln.resolve_left (show ¬ (3 : Nat) = 0 by decide)
    subst hln
    have hn : i32 n := fetch_inc hf
    exact sn_iinc C hd h hn kk
  | iadd =>
    replace hln : len = 1 := hln.resolve_left (show ¬ (1 : Nat) = 0 by decide)
    subst hln
    exact sn_bnI (g := fun x y => x + y) (lv_iadd C.1 C.2.1 hd) (fun x y h k => o_add h k) (fun _ _ _ _ => w32_in _) h kk
  | isub =>
    replace hln : len = 1 := hln.resolve_left (show ¬ (1 : Nat) = 0 by decide)
    subst hln
    exact sn_bnI (g := fun x y => x - y) (lv_isub C.1 C.2.1 hd) (fun x y h k => o_sub h k) (fun _ _ _ _ => w32_in _) h kk
  | imul =>
    replace hln : len = 1 := hln.resolve_left (show ¬ (1 : Nat) = 0 by decide)
    subst hln
    exact sn_bnI (g := fun x y => x * y) (lv_imul C.1 C.2.1 hd) (fun x y h k => o_mul h k) (fun _ _ _ _ => w32_in _) h kk
  | iand =>
    replace hln : len = 1 := hln.resolve_left (show ¬ (1 : Nat) = 0 by decide)
    subst hln
    exact sn_bnI (g := fun x y => x &&& y) (lv_iand C.1 C.2.1 hd) (fun x y _ _ => oI rfl) (fun x y _ _ => (b_in x y).1) h kk
  | ior =>
    replace hln : len = 1 := hln.resolve_left (show ¬ (1 : Nat) = 0 by decide)
    subst hln
    exact sn_bnI (g := fun x y => x ||| y) (lv_ior C.1 C.2.1 hd) (fun x y _ _ => oI rfl) (fun x y _ _ => (b_in x y).2.1) h kk
  | ixor =>
    replace hln : len = 1 := hln.resolve_left (show ¬ (1 : Nat) = 0 by decide)
    subst hln
    exact sn_bnI (g := fun x y => x ^^^ y) (lv_ixor C.1 C.2.1 hd) (fun x y _ _ => oI rfl) (fun x y _ _ => (b_in x y).2.2.1) h kk
  | ishl =>
    replace hln : len = 1 := hln.resolve_left (show ¬ (1 : Nat) = 0 by decide)
    subst hln
    exact sn_bnI (g := fun x y => x <<< (y &&& 31)) (lv_ishl C.1 C.2.1 hd) (fun x y _ _ => oI rfl) (fun x y _ _ => (b_in x y).2.2.2.1) h kk
  | ishr =>
    replace hln : len = 1 := hln.resolve_left (show ¬ (1 : Nat) = 0 by decide)
    subst hln
    exact sn_bnI (g := fun x y => x >>> (y &&& 31)) (lv_ishr C.1 C.2.1 hd) (fun x y _ _ => oI rfl) (fun x y _ _ => (b_in x y).2.2.2.2.1) h kk
  | iushr =>
    replace hln : len = 1 := hln.resolve_left (show ¬ (1 : Nat) = 0 by decide)
    subst hln
    exact sn_bnI (g := fun x y => (x.toUInt32 >>> (y.toUInt32 &&& Int32.toUInt32 31)).toInt32) (lv_iushr C.1 C.2.1 hd rfl) (fun x y _ _ => oI rfl) (fun x y _ _ => (b_in x y).2.2.2.2.2) h kk
  | idiv =>
    replace hln : len = 1 := hln.resolve_left (show ¬ (1 : Nat) = 0 by decide)
    subst hln
    exact sn_bnD (g := fun x y => x / y) (fun hne => lv_idiv C.1 C.2.1 hd hne) (fun x y h k => o_div h k) (fun _ _ _ _ => w32_in _) h kk
  | irem =>
    replace hln : len = 1 := hln.resolve_left (show ¬ (1 : Nat) = 0 by decide)
    subst hln
    exact sn_bnD (g := fun x y => x - x / y * y) (fun hne => lv_irem C.1 C.2.1 hd hne) (fun x y h k => o_rem h k) (fun _ _ h _ => tmod_in h) h kk
  | ineg =>
    replace hln : len = 1 := hln.resolve_left (show ¬ (1 : Nat) = 0 by decide)
    subst hln
    exact sn_ineg C hd h kk
  | ladd =>
    replace hln : len = 1 := hln.resolve_left (show ¬ (1 : Nat) = 0 by decide)
    subst hln
    exact sn_bnL (g := fun x y => x + y) (lv_ladd C.1 C.2.1 hd) (fun x y h k => ol_add h k) (fun _ _ _ _ => w64_in _) h kk
  | lmul =>
    replace hln : len = 1 := hln.resolve_left (show ¬ (1 : Nat) = 0 by decide)
    subst hln
    exact sn_bnL (g := fun x y => x * y) (lv_lmul C.1 C.2.1 hd) (fun x y h k => ol_mul h k) (fun _ _ _ _ => w64_in _) h kk
  | ldiv =>
    replace hln : len = 1 := hln.resolve_left (show ¬ (1 : Nat) = 0 by decide)
    subst hln
    exact sn_bnM (g := fun x y => x / y) (fun hne => lv_ldiv C.1 C.2.1 hd hne) (fun x y h k => ol_div h k) (fun _ _ _ _ => w64_in _) h kk
  | lrem =>
    replace hln : len = 1 := hln.resolve_left (show ¬ (1 : Nat) = 0 by decide)
    subst hln
    exact sn_bnM (g := fun x y => x - x / y * y) (fun hne => lv_lrem C.1 C.2.1 hd hne) (fun x y h k => ol_rem h k) (fun _ _ h _ => tmod_in64 h) h kk
  | lcmp =>
    replace hln : len = 1 := hln.resolve_left (show ¬ (1 : Nat) = 0 by decide)
    subst hln
    exact sn_lcmp C hd h kk
  | i2l =>
    replace hln : len = 1 := hln.resolve_left (show ¬ (1 : Nat) = 0 by decide)
    subst hln
    exact sn_i2l C hd h kk
  | l2i =>
    replace hln : len = 1 := hln.resolve_left (show ¬ (1 : Nat) = 0 by decide)
    subst hln
    exact sn_l2i C hd h kk
  | i2b =>
    replace hln : len = 1 := hln.resolve_left (show ¬ (1 : Nat) = 0 by decide)
    subst hln
    exact sn_i2b C hd h kk
  | dup =>
    replace hln : len = 1 := hln.resolve_left (show ¬ (1 : Nat) = 0 by decide)
    subst hln
    exact sn_dup C hd h kk
  | dup2 =>
    replace hln : len = 1 := hln.resolve_left (show ¬ (1 : Nat) = 0 by decide)
    subst hln
    exact sn_dup2 C hd h kk
  | pop =>
    replace hln : len = 1 := hln.resolve_left (show ¬ (1 : Nat) = 0 by decide)
    subst hln
    exact sn_pop C hd h kk
  | if_icmp cd off =>
    replace hln : len = 3 := hln.resolve_left (show ¬ (3 : Nat) = 0 by decide)
    subst hln
    have ht : 0 ≤ (pc : Int) + off := of_decide_eq_true hc
    cases cd with
    | eq => exact sn_br2 (P := fun x y => x = y) ht (fun kt kf => lv_icmp_eq C.1 C.2.1 hd (jmp_eq ht) kt kf) (fun x y h k => by rw [o_eq h k]; simp) h kk
    | ne => exact sn_br2 (P := fun x y => ¬ x = y) ht (fun kt kf => lv_icmp_ne C.1 C.2.1 hd (jmp_eq ht) kt (fun q => kf (fun z => z q))) (fun x y h k => by rw [o_eq h k]; simp) h kk
    | lt => exact sn_br2 (P := fun x y => x < y) ht (fun kt kf => lv_icmp_lt C.1 C.2.1 hd (jmp_eq ht) kt kf) (fun x y h k => by rw [o_lt h k]; simp) h kk
    | ge => exact sn_br2 (P := fun x y => y ≤ x) ht (fun kt kf => lv_icmp_ge C.1 C.2.1 hd (jmp_eq ht) kt kf) (fun x y h k => by rw [o_le k h]; simp) h kk
    | gt => exact sn_br2 (P := fun x y => y < x) ht (fun kt kf => lv_icmp_gt C.1 C.2.1 hd (jmp_eq ht) kt kf) (fun x y h k => by rw [o_lt k h]; simp) h kk
    | le => exact sn_br2 (P := fun x y => x ≤ y) ht (fun kt kf => lv_icmp_le C.1 C.2.1 hd (jmp_eq ht) kt kf) (fun x y h k => by rw [o_le h k]; simp) h kk
  | ifCond cd off =>
    replace hln : len = 3 := hln.resolve_left (show ¬ (3 : Nat) = 0 by decide)
    subst hln
    have ht : 0 ≤ (pc : Int) + off := of_decide_eq_true hc
    cases cd with
    | eq => exact sn_br1 (P := fun x => x = 0) ht (fun kt kf => lv_if_eq C.1 C.2.1 hd (jmp_eq ht) kt kf) (fun x h => by rw [o_zero, o_eq h i32_0]; simp) h kk
    | ne => exact sn_br1 (P := fun x => ¬ x = 0) ht (fun kt kf => lv_if_ne C.1 C.2.1 hd (jmp_eq ht) kt (fun q => kf (fun z => z q))) (fun x h => by rw [o_zero, o_eq h i32_0]; simp) h kk
    | lt => exact sn_br1 (P := fun x => x < 0) ht (fun kt kf => lv_if_lt C.1 C.2.1 hd (jmp_eq ht) kt kf) (fun x h => by rw [o_zero, o_lt h i32_0]; simp) h kk
    | ge => exact sn_br1 (P := fun x => 0 ≤ x) ht (fun kt kf => lv_if_ge C.1 C.2.1 hd (jmp_eq ht) kt kf) (fun x h => by rw [o_zero, o_le i32_0 h]; simp) h kk
    | gt => exact sn_br1 (P := fun x => 0 < x) ht (fun kt kf => lv_if_gt C.1 C.2.1 hd (jmp_eq ht) kt kf) (fun x h => by rw [o_zero, o_lt i32_0 h]; simp) h kk
    | le => exact sn_br1 (P := fun x => x ≤ 0) ht (fun kt kf => lv_if_le C.1 C.2.1 hd (jmp_eq ht) kt kf) (fun x h => by rw [o_zero, o_le h i32_0]; simp) h kk
  | goto off =>
    replace hln : len = 3 := hln.resolve_left (show ¬ (3 : Nat) = 0 by decide)
    subst hln
    exact sn_goto C hd (of_decide_eq_true hc) h kk
  | tableswitch dflt lo hi offs =>
    simp only [chkA, Bool.and_eq_true, decide_eq_true_eq] at hc
    exact sn_table C hd hc.1.1 hc.1.2 hc.2 h kk
  | lookupswitch dflt ps =>
    simp only [chkA, Bool.and_eq_true, decide_eq_true_eq] at hc
    exact sn_lookup C hd hc.1.1 hc.1.2 hc.2 h kk
  | getfield i =>
    replace hln : len = 3 := hln.resolve_left (show ¬ (3 : Nat) = 0 by decide)
    subst hln
    simp only [chkA, Bool.and_eq_true] at hc
    exact sn_get C hd (Nat.lt_succ_of_le (Nat.le_of_ble_eq_true hc.1.1)) (Nat.le_of_ble_eq_true hc.1.2) hc.2 h kk
  | putfield i =>
    replace hln : len = 3 := hln.resolve_left (show ¬ (3 : Nat) = 0 by decide)
    subst hln
    simp only [chkA, Bool.and_eq_true] at hc
    refine sn_put C hd (Nat.lt_succ_of_le (Nat.le_of_ble_eq_true hc.1.1.1)) (Nat.le_of_ble_eq_true hc.1.1.2) hc.1.2 ?_ hsg h kk
    have h9 := hc.2
    cases hq : (clT a b).2.2.2 with
    | false => exact Or.inl rfl
    | true =>
      rw [hq] at h9
      simp only [Bool.not_true, Bool.false_or, Bool.and_eq_true, decide_eq_true_eq] at h9
      exact Or.inr ⟨rfl, h9.1, h9.2⟩
  | iaload =>
    replace hln : len = 1 := hln.resolve_left (show ¬ (1 : Nat) = 0 by decide)
    subst hln
    exact sn_iald C hd h kk
  | iastore =>
    replace hln : len = 1 := hln.resolve_left (show ¬ (1 : Nat) = 0 by decide)
    subst hln
    exact sn_iast C hd h kk
  | baload =>
    replace hln : len = 1 := hln.resolve_left (show ¬ (1 : Nat) = 0 by decide)
    subst hln
    exact sn_zald C hd h kk
  | bastore =>
    replace hln : len = 1 := hln.resolve_left (show ¬ (1 : Nat) = 0 by decide)
    subst hln
    exact sn_zast C hd h kk
  | aaload =>
    replace hln : len = 1 := hln.resolve_left (show ¬ (1 : Nat) = 0 by decide)
    subst hln
    exact sn_aald C hd h kk
  | aastore =>
    replace hln : len = 1 := hln.resolve_left (show ¬ (1 : Nat) = 0 by decide)
    subst hln
    exact sn_aast C hd hsg h kk
  | arraylength =>
    replace hln : len = 1 := hln.resolve_left (show ¬ (1 : Nat) = 0 by decide)
    subst hln
    exact sn_alen C hd h kk
  | new i =>
    replace hln : len = 3 := hln.resolve_left (show ¬ (3 : Nat) = 0 by decide)
    subst hln
    simp only [chkA, Bool.and_eq_true] at hc
    have hN := exNew_N h
    exact sn_new C hd (Nat.lt_succ_of_le (Nat.le_of_ble_eq_true hc.1)) hc.2 hR1 h (fun q => k _ (fun j hj => adU_old hN hj) (adU_99 hN))
  | newarray at0 =>
    replace hln : len = 2 := hln.resolve_left (show ¬ (2 : Nat) = 0 by decide)
    subst hln
    have hb := arrB
    simp only [Bool.and_eq_true] at hb
    cases at0 with
    | int =>
      have hN := exNewI_N (a := 0) h
      exact sn_newI (kd := 0) (ty := .int) C hd rfl (by decide) rfl (fun cA h1 h2 => ra_int (Or.inl rfl) h1 h2) (w_at C.2.2.2.2.1 hb.1 rfl) rfl (by decide) hR1 h (fun q => k _ (fun j hj => adU_old hN hj) (adU_99 hN))
    | boolean =>
      have hN := exNewI_N (a := 1) h
      exact sn_newI (kd := 1) (ty := .boolean) C hd rfl (by decide) rfl (fun cA h1 h2 => ra_int (Or.inr rfl) h1 h2) (w_at C.2.2.2.2.1 hb.2 rfl) rfl (by decide) hR1 h (fun q => k _ (fun j hj => adU_old hN hj) (adU_99 hN))
    | _ => simp [ex] at h
  | anewarray i =>
    replace hln : len = 3 := hln.resolve_left (show ¬ (3 : Nat) = 0 by decide)
    subst hln
    simp only [chkA, Bool.and_eq_true, Bool.or_eq_true] at hc
    have hN := exNewA_N h
    rcases hc.1 with q | q
    · have q := Nat.eq_of_beq_eq_true q
      subst q
      exact sn_newA (kd := 2) (C0 := "FerryChange$Ferry") C hd (Or.inl rfl) rfl hc.2 C.2.2.2.2.2.2.2.2.1.1 hR1 h (fun q => k _ (fun j hj => adU_old hN hj) (adU_99 hN))
    · have q := Nat.eq_of_beq_eq_true q
      subst q
      exact sn_newA (kd := 3) (C0 := "FerryChange$Row") C hd (Or.inr rfl) rfl hc.2 C.2.2.2.2.2.2.2.2.1.2 hR1 h (fun q => k _ (fun j hj => adU_old hN hj) (adU_99 hN))
  | invokestatic i =>
    replace hln : len = 3 := hln.resolve_left (show ¬ (3 : Nat) = 0 by decide)
    subst hln
    have h : (bif Nat.beq a 9999 then exCpy pc ls st mm else bif Nat.beq a 9997 then exMx true pc ls st mm else bif Nat.beq a 9996 then exMx false pc ls st mm else exCall 0 M a pc st mm) = some (.inl nxt) := h
    simp only [chkA] at hc
    cases e1 : Nat.beq a 9999 with
    | true =>
      rw [e1] at h hc
      exact sn_cpy C hd hnL hc hR h kk
    | false =>
      rw [e1] at h hc
      cases e2 : Nat.beq a 9997 with
      | true =>
        rw [e2] at h hc
        exact sn_max C hd hnL hc hR hR0 h kk
      | false =>
        rw [e2] at h hc
        cases e3 : Nat.beq a 9996 with
        | true =>
          rw [e3] at h hc
          exact sn_min C hd hnL hc hR hR0 h kk
        | false =>
          rw [e3] at h
          exact (call_inl h).elim
  | invokevirtual i => exact (call_inl h).elim
  | invokespecial i =>
    replace hln : len = 3 := hln.resolve_left (show ¬ (3 : Nat) = 0 by decide)
    subst hln
    have h : (bif Nat.beq a 9998 then exObj pc ls st mm else exCall 2 M a pc st mm) = some (.inl nxt) := h
    simp only [chkA] at hc
    cases e1 : Nat.beq a 9998 with
    | true =>
      rw [e1] at h hc
      exact sn_obj C hd hnL hc hR h kk
    | false =>
      rw [e1] at h
      exact (call_inl h).elim
  | ireturn =>
    simp only [ex] at h
    split at h
    next =>
      cases e1 : Nat.beq a 0 with
      | true => rw [e1] at h; cases h
      | false =>
        rw [e1] at h
        dsimp only [cond] at h
        split at h <;> cases h
    next => cases h
  | lreturn =>
    simp only [ex] at h
    split at h <;> cases h
  | return_ =>
    simp only [ex] at h
    split at h <;> cases h
  | _ => simp [ex] at h
end DP
