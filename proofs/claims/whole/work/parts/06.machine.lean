/-! THE ABSTRACT MACHINE: values are ints (of their range), longs, keys of cells; a heap is a function from keys to cells; one function runs it. -/
abbrev AK : Type := Nat × Nat
abbrev AV : Type := Int ⊕ Int ⊕ Option AK
def vi (x : Int) : AV := .inl x
def vl (x : Int) : AV := .inr (.inl x)
def vr (t i : Nat) : AV := .inr (.inr (some (t, i)))
abbrev AE : Type := (Nat × Nat × (Nat → Int)) ⊕ (Nat × Nat × (Nat → Option AK)) ⊕ (Nat × (Nat → AV))
abbrev AM : Type := AK → AE
abbrev AMem : Type := AM × Nat × Nat
abbrev ALs : Type := List (Option AV)
abbrev ROut : Type := (Nat × ALs × List AV × AMem) ⊕ (Option AV) ⊕ (Nat × List AV × List AV × Nat)
def w32 (x : Int) : Int := Int.bmod x 4294967296
def w64 (x : Int) : Int := Int.bmod x 18446744073709551616
def w8 (x : Int) : Int := Int.bmod x 256
def i_and (x y : Int) : Int := (Int32.ofInt x &&& Int32.ofInt y).toInt
def i_or (x y : Int) : Int := (Int32.ofInt x ||| Int32.ofInt y).toInt
def i_xor (x y : Int) : Int := (Int32.ofInt x ^^^ Int32.ofInt y).toInt
def i_shl (x y : Int) : Int := (Int32.ofInt x <<< (Int32.ofInt y &&& 31)).toInt
def i_shr (x y : Int) : Int := (Int32.ofInt x >>> (Int32.ofInt y &&& 31)).toInt
def i_ushr (x y : Int) : Int := ((Int32.ofInt x).toUInt32 >>> ((Int32.ofInt y).toUInt32 &&& Int32.toUInt32 31)).toInt32.toInt
def l_cmp (x y : Int) : Int := if y < x then 1 else if x = y then 0 else -1
def upM (m : AM) (k : AK) (e : AE) : AM := fun q => if q = k then e else m q
def upF {α : Type} (f : Nat → α) (k : Nat) (v : α) : Nat → α := fun q => if q = k then v else f q
def cpF (f g : Nat → Int) (sp dp n : Nat) : Nat → Int := fun k => if dp ≤ k ∧ k < dp + n then f (sp + (k - dp)) else g k
/-- the names of the cells, in the order in which they are made -/
def nmL : List AK := [(0, 0), (1, 0), (2, 0), (20, 0), (21, 0), (22, 0), (23, 0), (24, 0), (25, 0), (26, 0), (27, 0), (4, 0), (5, 0), (30, 0), (31, 0), (32, 0), (11, 0), (12, 0), (13, 0),
  (28, 0), (29, 0), (28, 1), (29, 1), (28, 2), (29, 2), (28, 3), (29, 3), (28, 4), (29, 4), (28, 5), (29, 5), (28, 6), (29, 6), (28, 7), (29, 7), (28, 8), (29, 8), (28, 9), (29, 9),
  (20, 1), (21, 1), (22, 1), (23, 1), (24, 1), (25, 1), (26, 1), (27, 1), (20, 2), (21, 2), (22, 2), (23, 2), (24, 2), (25, 2), (26, 2), (27, 2), (20, 3), (21, 3), (22, 3), (23, 3), (24, 3), (25, 3), (26, 3), (27, 3),
  (39, 0), (40, 0), (41, 0), (42, 0), (43, 0), (45, 0), (46, 0), (47, 0), (48, 0), (50, 0), (51, 0), (56, 0), (58, 0), (59, 0), (60, 0), (61, 0), (62, 0), (63, 0)]
def nm (j : Nat) : AK := nth nmL j (98, 0)
def NTOT : Nat := 81
def dfv (a b : Nat) : AV := match clF a b with
  | 0 => vi 0
  | 1 => vl 0
  | _ => .inr (.inr none)
def kl (o : Option AV) : Option AV := match o with
  | some (.inr (.inl _)) => none
  | o => o
/-- a local set: a long that stood just ahead of it is lost -/
def setL : ALs → Nat → AV → Option ALs
  | [], _, _ => none
  | _ :: t, 0, v => some (some v :: t)
  | o :: [], _ + 1, _ => none
  | o :: _ :: t, 1, v => some (kl o :: some v :: t)
  | o :: t, n + 2, v => match setL t (n + 1) v with
    | some t' => some (o :: t')
    | none => none
def setW : ALs → Nat → AV → Option ALs
  | _ :: _ :: t, 0, v => some (some v :: none :: t)
  | o :: _ :: _ :: t, 1, v => some (kl o :: some v :: none :: t)
  | o :: t, n + 2, v => match setW t (n + 1) v with
    | some t' => some (o :: t')
    | none => none
  | _, _, _ => none
def nx (pc : Nat) (ls : ALs) (st : List AV) (mm : AMem) : Option ROut := some (.inl (pc, ls, st, mm))
def ldI (ls : ALs) (k pc : Nat) (st : List AV) (mm : AMem) : Option ROut := match nth ls k none with
  | some (.inl x) => nx pc ls (vi x :: st) mm
  | _ => none
def ldL (ls : ALs) (k pc : Nat) (st : List AV) (mm : AMem) : Option ROut := match nth ls k none with
  | some (.inr (.inl x)) => nx pc ls (vl x :: st) mm
  | _ => none
def ldA (ls : ALs) (k pc : Nat) (st : List AV) (mm : AMem) : Option ROut := match nth ls k none with
  | some (.inr (.inr (some x))) => nx pc ls (vr x.1 x.2 :: st) mm
  | _ => none
def stI (ls : ALs) (k pc : Nat) (st : List AV) (mm : AMem) : Option ROut := match st with
  | .inl x :: r => match setL ls k (vi x) with
    | some ls' => nx pc ls' r mm
    | none => none
  | _ => none
def stL (ls : ALs) (k pc : Nat) (st : List AV) (mm : AMem) : Option ROut := match st with
  | .inr (.inl x) :: r => match setW ls k (vl x) with
    | some ls' => nx pc ls' r mm
    | none => none
  | _ => none
def stA (ls : ALs) (k pc : Nat) (st : List AV) (mm : AMem) : Option ROut := match st with
  | .inr (.inr (some x)) :: r => match setL ls k (vr x.1 x.2) with
    | some ls' => nx pc ls' r mm
    | none => none
  | _ => none
def bnI (f : Int → Int → Int) (pc : Nat) (ls : ALs) (st : List AV) (mm : AMem) : Option ROut := match st with
  | .inl y :: .inl x :: r => nx (pc + 1) ls (vi (f x y) :: r) mm
  | _ => none
def bnD (f : Int → Int → Int) (pc : Nat) (ls : ALs) (st : List AV) (mm : AMem) : Option ROut := match st with
  | .inl y :: .inl x :: r => if y = 0 then none else nx (pc + 1) ls (vi (f x y) :: r) mm
  | _ => none
def bnL (f : Int → Int → Int) (pc : Nat) (ls : ALs) (st : List AV) (mm : AMem) : Option ROut := match st with
  | .inr (.inl y) :: .inr (.inl x) :: r => nx (pc + 1) ls (vl (f x y) :: r) mm
  | _ => none
def bnM (f : Int → Int → Int) (pc : Nat) (ls : ALs) (st : List AV) (mm : AMem) : Option ROut := match st with
  | .inr (.inl y) :: .inr (.inl x) :: r => if y = 0 then none else nx (pc + 1) ls (vl (f x y) :: r) mm
  | _ => none
def jmp (pc : Nat) (off : Int) : Nat := ((pc : Int) + off).toNat
def br2 (c : Int → Int → Bool) (pc : Nat) (off : Int) (ls : ALs) (st : List AV) (mm : AMem) : Option ROut := match st with
  | .inl y :: .inl x :: r => nx (bif c x y then jmp pc off else pc + 3) ls r mm
  | _ => none
def br1 (c : Int → Bool) (pc : Nat) (off : Int) (ls : ALs) (st : List AV) (mm : AMem) : Option ROut := match st with
  | .inl x :: r => nx (bif c x then jmp pc off else pc + 3) ls r mm
  | _ => none
def exGet (a b pc : Nat) (ls : ALs) (st : List AV) (mm : AMem) : Option ROut := match st with
  | .inr (.inr (some k)) :: r => match mm.1 k with
    | .inr (.inr (c, f)) => bif Nat.beq c a then nx (pc + 3) ls (f b :: r) mm else none
    | _ => none
  | _ => none
def fitF (t : Nat) (v : AV) : Bool := match t, v with
  | 0, .inl _ => true
  | 1, .inr (.inl _) => true
  | 2, .inr (.inr (some _)) => true
  | _, _ => false
def exPut (M a b pc : Nat) (ls : ALs) (st : List AV) (mm : AMem) : Option ROut := match st with
  | v :: .inr (.inr (some k)) :: r => match mm.1 k with
    | .inr (.inr (c, f)) => bif Nat.beq c a && fitF (clF a b) v && Nat.ble 1 M then nx (pc + 3) ls r (upM mm.1 k (.inr (.inr (c, upF f b v))), mm.2) else none
    | _ => none
  | _ => none
def exLd (pc : Nat) (ls : ALs) (st : List AV) (mm : AMem) : Option ROut := match st with
  | .inl i :: .inr (.inr (some k)) :: r => match mm.1 k with
    | .inl (kd, n, f) => bif Nat.beq kd 0 || Nat.beq kd 4 then (if 0 ≤ i ∧ i < n then nx (pc + 1) ls (vi (f i.toNat) :: r) mm else none) else none
    | _ => none
  | _ => none
def exSt (pc : Nat) (ls : ALs) (st : List AV) (mm : AMem) : Option ROut := match st with
  | .inl x :: .inl i :: .inr (.inr (some k)) :: r => match mm.1 k with
    | .inl (kd, n, f) => bif Nat.beq kd 0 then (if 0 ≤ i ∧ i < n then nx (pc + 1) ls r (upM mm.1 k (.inl (kd, n, upF f i.toNat x)), mm.2) else none) else none
    | _ => none
  | _ => none
def exLdZ (pc : Nat) (ls : ALs) (st : List AV) (mm : AMem) : Option ROut := match st with
  | .inl i :: .inr (.inr (some k)) :: r => match mm.1 k with
    | .inl (kd, n, f) => bif Nat.beq kd 1 then (if 0 ≤ i ∧ i < n then nx (pc + 1) ls (vi (f i.toNat) :: r) mm else none) else none
    | _ => none
  | _ => none
def exStZ (pc : Nat) (ls : ALs) (st : List AV) (mm : AMem) : Option ROut := match st with
  | .inl x :: .inl i :: .inr (.inr (some k)) :: r => match mm.1 k with
    | .inl (kd, n, f) => bif Nat.beq kd 1 then (if (x = 0 ∨ x = 1) ∧ 0 ≤ i ∧ i < n then nx (pc + 1) ls r (upM mm.1 k (.inl (kd, n, upF f i.toNat x)), mm.2) else none) else none
    | _ => none
  | _ => none
def exLdA (pc : Nat) (ls : ALs) (st : List AV) (mm : AMem) : Option ROut := match st with
  | .inl i :: .inr (.inr (some k)) :: r => match mm.1 k with
    | .inr (.inl (_, n, f)) => if 0 ≤ i ∧ i < n then (match f i.toNat with
      | some q => nx (pc + 1) ls (vr q.1 q.2 :: r) mm
      | none => none) else none
    | _ => none
  | _ => none
def exStA (M pc : Nat) (ls : ALs) (st : List AV) (mm : AMem) : Option ROut := match st with
  | .inr (.inr (some v)) :: .inl i :: .inr (.inr (some k)) :: r => match mm.1 k, mm.1 v with
    | .inr (.inl (kd, n, f)), .inr (.inr (c, _)) => bif ((Nat.beq kd 2 && Nat.beq c 0) || (Nat.beq kd 3 && Nat.beq c 1)) && Nat.ble 1 M then (if 0 ≤ i ∧ i < n then nx (pc + 1) ls r (upM mm.1 k (.inr (.inl (kd, n, upF f i.toNat (some v)))), mm.2) else none) else none
    | _, _ => none
  | _ => none
def exLen (pc : Nat) (ls : ALs) (st : List AV) (mm : AMem) : Option ROut := match st with
  | .inr (.inr (some k)) :: r => match mm.1 k with
    | .inl (_, n, _) => nx (pc + 1) ls (vi (n : Int) :: r) mm
    | .inr (.inl (_, n, _)) => nx (pc + 1) ls (vi (n : Int) :: r) mm
    | _ => none
  | _ => none
def exNew (a pc : Nat) (ls : ALs) (st : List AV) (mm : AMem) : Option ROut :=
  bif Nat.ble (mm.2.1 + 1) NTOT && Nat.ble a 4 then nx (pc + 3) ls (vr (nm mm.2.1).1 (nm mm.2.1).2 :: st) (upM mm.1 (nm mm.2.1) (.inr (.inr (a, dfv a))), mm.2.1 + 1, mm.2.2 + clK a) else none
def exNewI (kd pc : Nat) (ls : ALs) (st : List AV) (mm : AMem) : Option ROut := match st with
  | .inl n :: r => bif Nat.ble (mm.2.1 + 1) NTOT then (if 0 ≤ n ∧ n ≤ 100000 then nx (pc + 2) ls (vr (nm mm.2.1).1 (nm mm.2.1).2 :: r) (upM mm.1 (nm mm.2.1) (.inl (kd, n.toNat, fun _ => 0)), mm.2.1 + 1, mm.2.2 + n.toNat) else none) else none
  | _ => none
def exNewA (kd pc : Nat) (ls : ALs) (st : List AV) (mm : AMem) : Option ROut := match st with
  | .inl n :: r => bif Nat.ble (mm.2.1 + 1) NTOT then (if 0 ≤ n ∧ n ≤ 100000 then nx (pc + 3) ls (vr (nm mm.2.1).1 (nm mm.2.1).2 :: r) (upM mm.1 (nm mm.2.1) (.inr (.inl (kd, n.toNat, fun _ => none))), mm.2.1 + 1, mm.2.2 + n.toNat) else none) else none
  | _ => none
def exCpy (pc : Nat) (ls : ALs) (st : List AV) (mm : AMem) : Option ROut := match st with
  | .inl n :: .inl dp :: .inr (.inr (some k1)) :: .inl sp :: .inr (.inr (some k0)) :: r => match mm.1 k0, mm.1 k1 with
    | .inl (d0, n0, f), .inl (d1, n1, g) => bif Nat.beq d0 0 && Nat.beq d1 0 && Nat.ble r.length 4 then (if 0 ≤ sp ∧ 0 ≤ dp ∧ 0 ≤ n ∧ sp + n ≤ n0 ∧ dp + n ≤ n1 then nx (pc + 3) ls r (upM mm.1 k1 (.inl (d1, n1, cpF f g sp.toNat dp.toNat n.toNat)), mm.2) else none) else none
    | _, _ => none
  | _ => none
def exObj (pc : Nat) (ls : ALs) (st : List AV) (mm : AMem) : Option ROut := match st with
  | .inr (.inr (some _)) :: r => bif Nat.ble r.length 4 then nx (pc + 3) ls r mm else none
  | _ => none
def noScr (v : AV) : Bool := match v with
  | .inr (.inr (some k)) => !(Nat.beq k.1 99)
  | _ => true
def recvOk (mm : AMem) (c : Nat) (v : Option AV) : Bool := match v with
  | some (.inr (.inr (some k))) => match mm.1 k with
    | .inr (.inr (c', _)) => Nat.beq c' c
    | _ => false
  | _ => false
/-- the locals with which a method begins -/
def entL : List AV → ALs
  | [] => []
  | .inr (.inl x) :: t => some (vl x) :: none :: entL t
  | .inl x :: t => some (vi x) :: entL t
  | .inr (.inr v) :: t => some (.inr (.inr v)) :: entL t
def isRf (v : Option AV) : Bool := match v with
  | some (.inr (.inr (some _))) => true
  | _ => false
/-- a call: kind 0 static, 1 virtual, 2 a constructor -/
noncomputable def exCall (kind M M' pc : Nat) (st : List AV) (mm : AMem) : Option ROut :=
  bif Nat.ble (minf M').2.2.2.2.1 st.length && Nat.beq (minf M').2.2.2.2.2.1 kind && Nat.ble (st.drop (minf M').2.2.2.2.1).length 4 && (Nat.ble 1 M || (st.take (minf M').2.2.2.2.1).all noScr)
    && (!(Nat.beq kind 1) || recvOk mm (minf M').2.2.2.2.2.2 (st.take (minf M').2.2.2.2.1).getLast?) && Nat.ble (entL (st.take (minf M').2.2.2.2.1).reverse).length (minf M').2.2.1 && (!(Nat.beq kind 2) || isRf (st.take (minf M').2.2.2.2.1).getLast?)
  then some (.inr (.inr (M', (st.take (minf M').2.2.2.2.1).reverse, st.drop (minf M').2.2.2.2.1, pc + 3))) else none
def exMx (b : Bool) (pc : Nat) (ls : ALs) (st : List AV) (mm : AMem) : Option ROut := match st with
  | .inl y :: .inl x :: r => bif Nat.ble r.length 4 then nx (pc + 3) ls (vi (bif b then (if x < y then y else x) else (if y < x then y else x)) :: r) mm else none
  | _ => none
noncomputable def ex (M pc : Nat) (ls : ALs) (st : List AV) (mm : AMem) (q : INS) : Option ROut :=
  match q.1 with
  | .iconst n => nx (pc + 1) ls (vi n :: st) mm
  | .bipush n => nx (pc + 2) ls (vi n :: st) mm
  | .sipush n => nx (pc + 3) ls (vi n :: st) mm
  | .lconst n => nx (pc + 1) ls (vl (n.val : Int) :: st) mm
  | .ldc _ => nx (pc + 2) ls (vi q.2.2.2.2 :: st) mm
  | .ldc_w _ => nx (pc + 3) ls (vi q.2.2.2.2 :: st) mm
  | .ldc2_w _ => nx (pc + 3) ls (vl q.2.2.2.2 :: st) mm
  | .iload k => ldI ls k (pc + 2) st mm
  | .iload_n k => ldI ls k.val (pc + 1) st mm
  | .lload k => ldL ls k (pc + 2) st mm
  | .lload_n k => ldL ls k.val (pc + 1) st mm
  | .aload k => ldA ls k (pc + 2) st mm
  | .aload_n k => ldA ls k.val (pc + 1) st mm
  | .istore k => stI ls k (pc + 2) st mm
  | .istore_n k => stI ls k.val (pc + 1) st mm
  | .lstore k => stL ls k (pc + 2) st mm
  | .lstore_n k => stL ls k.val (pc + 1) st mm
  | .astore k => stA ls k (pc + 2) st mm
  | .astore_n k => stA ls k.val (pc + 1) st mm
  | .iinc k n => match nth ls k none with
    | some (.inl x) => (match setL ls k (vi (w32 (x + n))) with
      | some ls' => nx (pc + 3) ls' st mm
      | none => none)
    | _ => none
  | .iadd => bnI (fun x y => w32 (x + y)) pc ls st mm
  | .isub => bnI (fun x y => w32 (x - y)) pc ls st mm
  | .imul => bnI (fun x y => w32 (x * y)) pc ls st mm
  | .iand => bnI i_and pc ls st mm
  | .ior => bnI i_or pc ls st mm
  | .ixor => bnI i_xor pc ls st mm
  | .ishl => bnI i_shl pc ls st mm
  | .ishr => bnI i_shr pc ls st mm
  | .iushr => bnI i_ushr pc ls st mm
  | .idiv => bnD (fun x y => w32 (x.tdiv y)) pc ls st mm
  | .irem => bnD (fun x y => x.tmod y) pc ls st mm
  | .ineg => match st with
    | .inl x :: r => nx (pc + 1) ls (vi (w32 (-x)) :: r) mm
    | _ => none
  | .ladd => bnL (fun x y => w64 (x + y)) pc ls st mm
  | .lmul => bnL (fun x y => w64 (x * y)) pc ls st mm
  | .ldiv => bnM (fun x y => w64 (x.tdiv y)) pc ls st mm
  | .lrem => bnM (fun x y => x.tmod y) pc ls st mm
  | .lcmp => match st with
    | .inr (.inl y) :: .inr (.inl x) :: r => nx (pc + 1) ls (vi (l_cmp x y) :: r) mm
    | _ => none
  | .i2l => match st with
    | .inl x :: r => nx (pc + 1) ls (vl x :: r) mm
    | _ => none
  | .l2i => match st with
    | .inr (.inl x) :: r => nx (pc + 1) ls (vi (w32 x) :: r) mm
    | _ => none
  | .i2b => match st with
    | .inl x :: r => nx (pc + 1) ls (vi (w8 x) :: r) mm
    | _ => none
  | .dup => match st with
    | .inl x :: r => nx (pc + 1) ls (vi x :: vi x :: r) mm
    | .inr (.inr (some k)) :: r => nx (pc + 1) ls (vr k.1 k.2 :: vr k.1 k.2 :: r) mm
    | _ => none
  | .dup2 => match st with
    | .inl y :: .inr (.inr (some k)) :: r => nx (pc + 1) ls (vi y :: vr k.1 k.2 :: vi y :: vr k.1 k.2 :: r) mm
    | _ => none
  | .pop => match st with
    | .inl _ :: r => nx (pc + 1) ls r mm
    | _ => none
  | .if_icmp .eq off => br2 (fun x y => decide (x = y)) pc off ls st mm
  | .if_icmp .ne off => br2 (fun x y => !decide (x = y)) pc off ls st mm
  | .if_icmp .lt off => br2 (fun x y => decide (x < y)) pc off ls st mm
  | .if_icmp .ge off => br2 (fun x y => decide (y ≤ x)) pc off ls st mm
  | .if_icmp .gt off => br2 (fun x y => decide (y < x)) pc off ls st mm
  | .if_icmp .le off => br2 (fun x y => decide (x ≤ y)) pc off ls st mm
  | .ifCond .eq off => br1 (fun x => decide (x = 0)) pc off ls st mm
  | .ifCond .ne off => br1 (fun x => !decide (x = 0)) pc off ls st mm
  | .ifCond .lt off => br1 (fun x => decide (x < 0)) pc off ls st mm
  | .ifCond .ge off => br1 (fun x => decide (0 ≤ x)) pc off ls st mm
  | .ifCond .gt off => br1 (fun x => decide (0 < x)) pc off ls st mm
  | .ifCond .le off => br1 (fun x => decide (x ≤ 0)) pc off ls st mm
  | .goto off => nx (jmp pc off) ls st mm
  | .tableswitch dflt lo hi offs => match st with
    | .inl x :: r => nx (jmp pc (if x < lo ∨ hi < x then dflt else nth offs.toList (x - lo).toNat 0)) ls r mm
    | _ => none
  | .lookupswitch dflt ps => match st with
    | .inl x :: r => nx (jmp pc (Op.lookupswitch.offset ps.toList dflt x)) ls r mm
    | _ => none
  | .getfield _ => exGet q.2.2.1 q.2.2.2.1 pc ls st mm
  | .putfield _ => exPut M q.2.2.1 q.2.2.2.1 pc ls st mm
  | .iaload => exLd pc ls st mm
  | .iastore => exSt pc ls st mm
  | .baload => exLdZ pc ls st mm
  | .bastore => exStZ pc ls st mm
  | .aaload => exLdA pc ls st mm
  | .aastore => exStA M pc ls st mm
  | .arraylength => exLen pc ls st mm
  | .new _ => exNew q.2.2.1 pc ls st mm
  | .newarray .int => exNewI 0 pc ls st mm
  | .newarray .boolean => exNewI 1 pc ls st mm
  | .anewarray _ => exNewA q.2.2.1 pc ls st mm
  | .invokestatic _ => bif Nat.beq q.2.2.1 9999 then exCpy pc ls st mm else bif Nat.beq q.2.2.1 9997 then exMx true pc ls st mm else bif Nat.beq q.2.2.1 9996 then exMx false pc ls st mm else exCall 0 M q.2.2.1 pc st mm
  | .invokevirtual _ => exCall 1 M q.2.2.1 pc st mm
  | .invokespecial _ => bif Nat.beq q.2.2.1 9998 then exObj pc ls st mm else exCall 2 M q.2.2.1 pc st mm
  | .ireturn => match st with
    | [.inl x] => bif Nat.beq q.2.2.1 0 then some (.inr (.inl (some (vi x)))) else (if x = 0 ∨ x = 1 then some (.inr (.inl (some (vi x)))) else none)
    | _ => none
  | .lreturn => match st with
    | [.inr (.inl x)] => some (.inr (.inl (some (vl x))))
    | _ => none
  | .return_ => match st with
    | [] => some (.inr (.inl none))
    | _ => none
  | _ => none
def padL : ALs → Nat → ALs
  | l, 0 => l
  | [], n + 1 => none :: padL [] n
  | a :: t, n + 1 => a :: padL t n
noncomputable def entry (M : Nat) (av : List AV) : ALs := padL (entL av) (minf M).2.2.1
noncomputable def go : Nat → Nat → Nat → Nat → ALs → List AV → AMem → Option (Option AV × AMem)
  | 0, _, _, _, _, _, _ => none
  | n + 1, d, M, pc, ls, st, mm =>
    match fetch M pc with
    | none => none
    | some q =>
      match ex M pc ls st mm q with
      | none => none
      | some (.inl (pc', ls', st', mm')) => go n d M pc' ls' st' mm'
      | some (.inr (.inl r)) => some (r, mm)
      | some (.inr (.inr (M', av, rest, pc'))) =>
        match d with
        | 0 => none
        | d' + 1 =>
          match go n d' M' 0 (entry M' av) [] mm with
          | none => none
          | some (r, mm') => go n (d' + 1) M pc' ls (r.toList ++ rest) mm'
