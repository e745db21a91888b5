/-! THE CLAIM OUT OF ONE WALK OF THE LAW'S BODY. Your part is whole_start (and what it stands on); all else here is the same for every law, but numbers. -/
def R_law : String := "FerryChangeLaw"
def lw_P (b : Addr) (xs : List Int32) (args : Array Value) (s : State) : Prop := args = #[.ref b] ∧ s.IntsAt b xs ∧ xs.length ≤ 3072 ∧ (Jvm.Cond.and given_1 narrow_1).before args s = true
def lw_Q (_ : Array Value) (s : State) (o : Outcome) (t : State) : Prop := o = .returned (some (.int 1)) ∧ Framed s o t [] 600000 7302250
def lw_Z (below : List Frame) (a : Array Value) (s : State) : State → Prop := fun t => ∃ o, t.status = .running ∧ Ended t below o ∧ lw_Q a s o t
/-- the law's own end, with 1 on the stack, nothing written that was there before, its room as the claim has it -/
theorem lw_ret {p : Program} {l : Launch} {e : Env} {s : State} {m : MethodId} {below : List Frame} {meth : Method} {c : Code} {b : Nat} (hx : p.tables.exec = Jvm.exec) (hb : c.code = code) (hr : meth.sig.returnType = ret) (hlocks : meth.locks = false) {pc : Nat} {H : Heap} {ls : Array Slot} (hdg : decode code pc = .ok (.ireturn, 1)) : W p l e room_1 s m #[Value.ref b] below meth c H [] 600000 7302250 (lw_Z below #[Value.ref b] s) (F0 m pc ls [.int 1]) := by
  intro T hT X
  obtain ⟨fs, hret, hrun, hended, hW, hframe⟩ := X.leave (v := some (.int 1)) (hlocks := hlocks) (fun h => by rw [hr] at h; cases h)
  have hmeth' : T.vm.method? m = some meth := X.method'
  refine ⟨T.setFrames fs, ?_, .returned (some (.int 1)), hrun, hended, rfl, ⟨_, rfl⟩, hW, hframe⟩
  jvm_step X.here [X.here.top, hx, hb, hdg, hmeth', hr, ret, narrow_b1]
  (try refine ⟨rfl, ?_⟩); (try refine ⟨rfl, ?_⟩)
  first | (intro acts; rw [hret _ acts rfl rfl rfl]) | rw [hret _ _ rfl rfl rfl]
  exact Steps.refl _
/-- what holds at the law's entry: the machine, the code, the tables' words (any of lw_tbl by 'hts w (by decide +kernel)'), the script of L ints xs at the cell b, what the Statement gives of the start (any of its parts by flat_of_before) -/
def lw_At (p : Program) (s : State) (m : MethodId) (meth : Method) (c : Code) (b L : Nat) (xs : Nat → Int32) : Prop :=
  p.tables.exec = Jvm.exec ∧ c.code = code ∧ meth.sig.returnType = ret ∧ c.maxLocals = 4 ∧ s.vm.findClass R_law = some m.cls ∧ (∀ w ∈ lw_tbl, w.before #[Value.ref b] s = true) ∧ va_X b L xs s s.heap ∧ b < s.heap.size ∧ meth.locks = false ∧ (Jvm.Cond.and given_1 narrow_1).before #[Value.ref b] s = true
/-! THE LAW out of a run of the abstract machine -/
/-- what is left to show, of the abstract machine alone -/
def PureLaw : Prop := ∀ (L : Nat) (xs : Nat → Int), L ≤ 3072 → (∀ j, i32 (xs j)) → ∃ (m0 : AM) (n : Nat) (mmF : AMem), m0 (99, 0) = .inl (4, L, xs) ∧ go n 800 0 0 [some (vr 99 0), none, none, none] [] (m0, 0, 0) = some (some (vi 1), mmF) ∧ mmF.2.1 ≤ 600000 ∧ mmF.2.2 ≤ 7302250
theorem arr_known {s : State} {args : Array Value} {ty : FieldType} (h : (Cond.arrayClass ty).before args s = true) (hp : ty = .int ∨ ty = .boolean) : ∃ cA, ArrOfT s cA ty ∧ va_RA s cA ty := by
  obtain ⟨cA, kA, comp, h1, h2, h3⟩ := Cond.arrayClass_spec h
  refine ⟨cA, fun n z => ⟨fun k h => (by cases h), kA, h2, comp, h3⟩, ?_⟩
  rcases hp with rfl | rfl
  · exact h1
  · exact h1
theorem arr_over {s : State} {args : Array Value} {C : String} (h : (Cond.arrayOver (.object C)).before args s = true) : ∃ cA, ArrOfT s cA (.object C) ∧ va_RA s cA (.object C) := by
  obtain ⟨comp, cA, kA, h1, -, h2, h3, h4⟩ := Cond.arrayOver_spec h
  exact ⟨cA, fun n z => ⟨fun k h => (by cases h), kA, h2, comp, h3⟩, kA, comp, h2, h3, h1, h4⟩
theorem ovB : (eqW plArr.2.2.1 (.arrayOver (.object "FerryChange$Ferry")) && eqW plArr.2.2.2 (.arrayOver (.object "FerryChange$Row"))) = true := by decide +kernel
theorem whole_of (hp : PureLaw) {p : Program} {e : Env} {s : State} {m : MethodId} {below : List Frame} {meth : Method} {c : Code} (l : Launch) {b L : Nat} {xs : Nat → Int32} (hL : L ≤ 3072) (C0 : lw_At p s m meth c b L xs) (hname : meth.name = "law") : W p l e room_1 s m #[Value.ref b] below meth c s.heap [] 0 0 (lw_Z below #[Value.ref b] s) (entryFrame m ([Value.ref b] : List Value).toArray 4) := by
  obtain ⟨hx, hb, hr, hml, hown, hts, hX, hbl, hlocks, hgv⟩ := C0
  have hg : ∀ w ∈ gw, w.before #[Value.ref b] s = true := fun w hw => hts w (List.mem_filter.mp hw).1
  have hins : ∀ a, a < 5 → ∃ (cC : ClassId) (iS : Nat → Nat), u_Kn s (clR a) (clT a) (clK a) cC iS := by
    intro a ha
    have h1 := List.all_eq_true.mp insB a (List.mem_range.mpr ha)
    rw [Bool.and_eq_true] at h1
    exact u_known hg (uw_in ha) (w_at hg h1.1 rfl)
  obtain ⟨c0, i0, k0⟩ := hins 0 (by decide)
  obtain ⟨c1, i1, k1⟩ := hins 1 (by decide)
  obtain ⟨c2, i2, k2⟩ := hins 2 (by decide)
  obtain ⟨c3, i3, k3⟩ := hins 3 (by decide)
  obtain ⟨c4, i4, k4⟩ := hins 4 (by decide)
  have hab := arrB
  simp only [Bool.and_eq_true] at hab
  have hov := ovB
  simp only [Bool.and_eq_true] at hov
  obtain ⟨a0, a0o, a0r⟩ := arr_known (w_at hg hab.1 rfl) (Or.inl rfl)
  obtain ⟨a1, a1o, a1r⟩ := arr_known (w_at hg hab.2 rfl) (Or.inr rfl)
  have ho2 : (Cond.arrayOver (.object "FerryChange$Ferry")).before #[Value.ref b] s = true := hts _ (List.mem_of_getElem? (of_decide_eq_true hov.1))
  have ho3 : (Cond.arrayOver (.object "FerryChange$Row")).before #[Value.ref b] s = true := hts _ (List.mem_of_getElem? (of_decide_eq_true hov.2))
  obtain ⟨a2, a2o, a2r⟩ := arr_over ho2
  obtain ⟨a3, a3o, a3r⟩ := arr_over ho3
  obtain ⟨D, hD1⟩ : ∃ D : va_G, ∀ (k : Nat) (q : vw_C), vwCl[k]? = some q → u_Kn s q.1 q.2.1 q.2.2 (D.1 k) (D.2 k) := by
    refine ⟨(fun k => match k with | 0 => c0 | 1 => c1 | 2 => c2 | 3 => c3 | _ => c4, fun k => match k with | 0 => i0 | 1 => i1 | 2 => i2 | 3 => i3 | _ => i4), ?_⟩
    intro k q hq
    match k, hq with
    | 0, hq => cases hq; exact k0
    | 1, hq => cases hq; exact k1
    | 2, hq => cases hq; exact k2
    | 3, hq => cases hq; exact k3
    | 4, hq => cases hq; exact k4
    | k + 5, hq => simp [vwCl] at hq
  obtain ⟨dA, d0, d1, d2, d3⟩ : ∃ dA : Nat → ClassId, dA 0 = a0 ∧ dA 1 = a1 ∧ dA 2 = a2 ∧ dA 3 = a3 := ⟨fun k => match k with | 0 => a0 | 1 => a1 | 2 => a2 | _ => a3, rfl, rfl, rfl, rfl⟩
  have hK : va_K D vwCl (tyA dA) s := by
    refine ⟨hD1, fun k q hq => ?_⟩
    match k, hq with
    | 0, hq => cases hq; rw [d0]; exact ⟨a0o, a0r⟩
    | 1, hq => cases hq; rw [d1]; exact ⟨a1o, a1r⟩
    | 2, hq => cases hq; rw [d2]; exact ⟨a2o, a2r⟩
    | 3, hq => cases hq; rw [d3]; exact ⟨a3o, a3r⟩
    | k + 4, hq => simp [tyA] at hq
  have C : Cx p s m #[Value.ref b] meth c D dA (fun q : Nat => s.heap.size ≤ q) 0 := by
    refine ⟨hx, hb, hml, hown, hg, hK, fun _ h => h, hname, ⟨va_AO.of ho2, va_AO.of ho3⟩, fun w hw => ?_⟩
    obtain ⟨_, _, _, _, hwf⟩ := nw_form hw
    have hw2 := hts w (List.mem_filter.mp hw).1
    subst hwf
    exact va_Nw.of rfl hw2
  obtain ⟨m0, n, mmF, hm0, hgo, hcl, hsl⟩ := hp L (fun j => (xs j).toInt) hL (fun j => i32_of _)
  have key := snd_all n 800 0 0 [some (vr 99 0), none, none, none] [] (m0, 0, 0) (some (vi 1)) mmF hgo p l e room_1 s m #[Value.ref b] below meth c (lw_Z below #[Value.ref b] s) D dA (fun q : Nat => s.heap.size ≤ q) true 4 0 0 (fun _ => b) C hml (fun h => absurd h (by decide))
    ⟨by show 801 ≤ 2048; decide, by show 80100 ≤ 84000; decide, by show mmF.2.1 ≤ 600000 + 0; omega, by show mmF.2.2 ≤ 7302250 + 0; omega⟩ ?_
  · rw [lg_entry_eq]
    refine key s.heap [] _ 0 0 ⟨fun k q h => by simp [wl] at h, ⟨fun i j p q h => by simp [wl] at h, fun k q h => by simp [wl] at h⟩, va_S.rf, ⟨Nat.zero_le _, fun j hj => absurd hj (Nat.not_lt_zero _)⟩, ?_, fun k v hv => ?_, (fun v hv => by cases hv), rfl, rfl, fun _ => ?_⟩
    · exact ent_LR (ad := fun _ => b) (av := [vr 99 0]) (n := 4) (by decide)
    · match k, hv with
      | 0, hv => cases hv; exact Or.inr ⟨rfl, rfl⟩
      | 1, hv => cases hv
      | 2, hv => cases hv
      | 3, hv => cases hv
      | k + 4, hv =>
        have : nth ([] : ALs) k none = some v := hv
        rw [nth_nil] at this
        cases this
    · exact ⟨b, L, xs, hX, hbl, Nat.not_le.mpr hbl, rfl, by omega, hm0⟩
  · intro ad' pc lsc H locs cells slots hag hrf hP1 hD2 hS1 hM1 hc1 hs1
    refine va_forget (fun q hq => hS1.2.2 q hq) ?_
    have h81 : NTOT = 81 := rfl
    have hm1 := hM1.1
    refine W.widen (k := 600000) (n := 7302250) (by omega) (by omega) ?_
    exact lw_ret hx hb hr hlocks hrf.1
