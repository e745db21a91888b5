/-! THE INDUCTION -/
theorem go_mono : ∀ {n d M pc : Nat} {ls : ALs} {st : List AV} {mm : AMem} {r : Option AV} {mmF : AMem}, go n d M pc ls st mm = some (r, mmF) → (mm.2.1 ≤ mmF.2.1 ∧ mm.2.2 ≤ mmF.2.2) ∧ ∀ L f, mm.1 (99, 0) = .inl (4, L, f) → mmF.1 (99, 0) = .inl (4, L, f)
  | 0, _, _, _, _, _, _, _, _, h => by simp [go] at h
  | n + 1, d, M, pc, ls, st, mm, r, mmF, h => by
    simp only [go] at h
    split at h
    next => cases h
    next q hq =>
      split at h
      next => cases h
      next pc' ls' st' mm' he =>
        have h1 := go_mono h
        rcases ex_inv he with ⟨nxt, e1, e2, e3⟩ | ⟨kind, i, -, e1⟩ | ⟨-, x, -, e1, -⟩ | ⟨-, x, -, e1⟩ | ⟨-, -, e1⟩
        · cases e1
          exact ⟨⟨Nat.le_trans e2.1 h1.1.1, Nat.le_trans e2.2 h1.1.2⟩, fun L f q => h1.2 L f (e3 L f q)⟩
        · exact (call_inl e1).elim
        · cases e1
        · cases e1
        · cases e1
      next r' he => cases h; exact ⟨⟨Nat.le_refl _, Nat.le_refl _⟩, fun _ _ q => q⟩
      next M' av rest pc' he =>
        split at h
        next => cases h
        next d' =>
          split at h
          next => cases h
          next r1 mm1 h1 =>
            have a1 := go_mono h1
            have a2 := go_mono h
            exact ⟨⟨Nat.le_trans a1.1.1 a2.1.1, Nat.le_trans a1.1.2 a2.1.2⟩, fun L f q => a2.2 L f (a1.2 L f q)⟩
noncomputable def wsM (M : Nat) : List Cond := Cond.code (minf M).1 (minf M).2.1 (minf M).2.2.1 (minf M).2.2.2.1 :: gw
def rmD (d uc us : Nat) : Room := { frames := d + 1, cells := uc, slots := us, locals := 100 * (d + 1) }
theorem nw_form {w : Cond} (h : w ∈ nw) : ∃ a i x hh, w = .methodLinkNest a i x hh := by
  have h1 := (List.mem_filter.mp h).2
  cases w <;> first | exact ⟨_, _, _, _, rfl⟩ | (simp [isNest] at h1; done)
def Pcc (D : va_G) (dA : Nat → ClassId) (ad : AK → Nat) (mm : AMem) (av : List AV) (sz : Nat) : Array Value → State → Prop :=
  va_Pc (av.map (cv ad)) (fun U => U.heap.size = sz ∧ va_P D vwCl (wl dA ad mm) U.heap ∧ va_K D vwCl (tyA dA) U ∧ va_D (fun _ => True) (wl dA ad mm) ∧ (va_AO "FerryChange$Ferry" U ∧ va_AO "FerryChange$Row" U) ∧ ∀ w ∈ nw, va_Nw w U)
def Qg (D : va_G) (dA : Nat → ClassId) (ad : AK → Nat) (mm : AMem) (r : Option AV) (mmF : AMem) (A : Nat → Prop) : Array Value → State → Outcome → State → Prop := fun _ st o t =>
  (∃ ad' : AK → Nat, o = .returned (r.map (cv ad')) ∧ (∀ j, j < mm.2.1 → ad' (nm j) = ad (nm j)) ∧ va_P D vwCl (wl dA ad' mmF) t.heap ∧ va_D A (wl dA ad' mmF) ∧ okM mmF ∧ (∀ v, r = some v → okv mmF.2.1 false v)) ∧ va_F A st t
theorem Pcc_blind (D : va_G) (dA : Nat → ClassId) (ad : AK → Nat) (mm : AMem) (av : List AV) (sz : Nat) : FrameBlind (Pcc D dA ad mm av sz) := by
  intro a U g mk q
  obtain ⟨q0, q1, qP, qK, qD, qO, qN⟩ := q
  refine ⟨q0, q1, qP, va_K.moved (u := U) (U := U.calling g mk a) (Vm.Alike.refl U.vm) qK, qD, ⟨va_AO.moved (u := U) (U := U.calling g mk a) (Vm.Alike.refl U.vm) qO.1, va_AO.moved (u := U) (U := U.calling g mk a) (Vm.Alike.refl U.vm) qO.2⟩, fun w hw => ?_⟩
  obtain ⟨_, _, _, _, rfl⟩ := nw_form hw
  exact va_Nw.same (u := U) (U := U.calling g mk a) rfl rfl (qN _ hw)
def RM (R : Room) (d N0 S0 : Nat) (mmF : AMem) : Prop := d + 1 ≤ R.frames ∧ 100 * (d + 1) ≤ R.locals ∧ mmF.2.1 ≤ R.cells + N0 ∧ mmF.2.2 ≤ R.slots + S0
def RF (M pc : Nat) (r : Option AV) : Prop := match r with
  | none => decode (minf M).2.1 pc = .ok (.return_, 1) ∧ (minf M).2.2.2.1 = none
  | some (.inl x) => decode (minf M).2.1 pc = .ok (.ireturn, 1) ∧ i32 x ∧ ((minf M).2.2.2.1 = some .int ∨ ((minf M).2.2.2.1 = some .boolean ∧ (x = 0 ∨ x = 1)))
  | some (.inr (.inl x)) => decode (minf M).2.1 pc = .ok (.lreturn, 1) ∧ i64 x ∧ (minf M).2.2.2.1 = some .long
  | _ => False
def Fin (p : Program) (l : Launch) (e : Env) (R : Room) (s : State) (m : MethodId) (args : Array Value) (below : List Frame) (meth : Method) (c : Code) (Q : State → Prop) (D : va_G) (dA : Nat → ClassId) (A : Nat → Prop) (N0 S0 M : Nat) (N : Nat) (ad : AK → Nat) (r : Option AV) (mmF : AMem) : Prop :=
  ∀ (ad' : AK → Nat) (pc : Nat) (lsc : Array Slot) (H : Heap) (locs : List Loc) (cells slots : Nat), (∀ j, j < N → ad' (nm j) = ad (nm j)) → RF M pc r → va_P D vwCl (wl dA ad' mmF) H → va_D A (wl dA ad' mmF) → va_S A s.heap H locs → okM mmF → cells + N0 = mmF.2.1 → slots + S0 = mmF.2.2 → W p l e R s m args below meth c H locs cells slots Q (F0 m pc lsc (r.toList.map (cv ad')))
def SND (n : Nat) : Prop := ∀ (d M pc : Nat) (ls : ALs) (st : List AV) (mm : AMem) (r : Option AV) (mmF : AMem), go n d M pc ls st mm = some (r, mmF) → ∀ (p : Program) (l : Launch) (e : Env) (R : Room) (s : State) (m : MethodId) (args : Array Value) (below : List Frame) (meth : Method) (c : Code) (Q : State → Prop) (D : va_G) (dA : Nat → ClassId) (A : Nat → Prop) (sg : Bool) (nL N0 S0 : Nat) (ad : AK → Nat),
  Cx p s m args meth c D dA A M → c.maxLocals = nL → (1 ≤ M → sg = false) → RM R d N0 S0 mmF → Fin p l e R s m args below meth c Q D dA A N0 S0 M mm.2.1 ad r mmF → WG p l e R s m args below meth c Q D dA A sg nL N0 S0 ad (pc, ls, st, mm)
/-! entry -/
theorem ent_len (ad : AK → Nat) : ∀ av : List AV, (lg_sl (av.map (cv ad))).length = (entL av).length
  | [] => rfl
  | .inl x :: t => by
    have := ent_len ad t
    simp only [lg_sl, List.map_cons, List.flatMap_cons, List.length_append, entL, List.length_cons] at this ⊢
    rw [this]
    simp [cv, Value.category]
    omega
  | .inr (.inl x) :: t => by
    have := ent_len ad t
    simp only [lg_sl, List.map_cons, List.flatMap_cons, List.length_append, entL, List.length_cons] at this ⊢
    rw [this]
    simp [cv, Value.category]
    omega
  | .inr (.inr none) :: t => by
    have := ent_len ad t
    simp only [lg_sl, List.map_cons, List.flatMap_cons, List.length_append, entL, List.length_cons] at this ⊢
    rw [this]
    simp [cv, Value.category]
    omega
  | .inr (.inr (some k)) :: t => by
    have := ent_len ad t
    simp only [lg_sl, List.map_cons, List.flatMap_cons, List.length_append, entL, List.length_cons] at this ⊢
    rw [this]
    simp [cv, Value.category]
    omega
theorem lg_cons1 {v : Value} {vs : List Value} (h : v.category ≠ 2) : lg_sl (v :: vs) = .val v :: lg_sl vs := by simp [lg_sl, h]
theorem lg_cons2 {v : Value} {vs : List Value} (h : v.category = 2) : lg_sl (v :: vs) = .val v :: .second :: lg_sl vs := by simp [lg_sl, h]
theorem ent_at (ad : AK → Nat) : ∀ (av : List AV) (k : Nat) (v : AV), nth (entL av) k none = some v → (lg_sl (av.map (cv ad)))[k]? = some (.val (cv ad v)) ∧ v ∈ av
  | [], k, v, h => by rw [entL, nth_nil] at h; cases h
  | .inl x :: t, k, v, h => by
    rw [List.map_cons, lg_cons1 (by simp [cv, Value.category])]
    cases k with
    | zero => simp only [entL, nth] at h; cases h; exact ⟨rfl, List.mem_cons_self⟩
    | succ k =>
      obtain ⟨a1, a2⟩ := ent_at ad t k v h
      exact ⟨by simpa using a1, List.mem_cons_of_mem _ a2⟩
  | .inr (.inl x) :: t, k, v, h => by
    rw [List.map_cons, lg_cons2 (by simp [cv, Value.category])]
    match k, h with
    | 0, h => simp only [entL, nth] at h; cases h; exact ⟨rfl, List.mem_cons_self⟩
    | 1, h => simp only [entL, nth] at h; cases h
    | k + 2, h =>
      obtain ⟨a1, a2⟩ := ent_at ad t k v h
      exact ⟨by simpa using a1, List.mem_cons_of_mem _ a2⟩
  | .inr (.inr y) :: t, k, v, h => by
    rw [List.map_cons, lg_cons1 (by cases y <;> simp [cv, Value.category])]
    cases k with
    | zero => simp only [entL, nth] at h; cases h; exact ⟨rfl, List.mem_cons_self⟩
    | succ k =>
      obtain ⟨a1, a2⟩ := ent_at ad t k v h
      exact ⟨by simpa using a1, List.mem_cons_of_mem _ a2⟩
theorem padL_len : ∀ {l : ALs} {n : Nat}, l.length ≤ n → (padL l n).length = n
  | l, 0, h => by simp at h; subst h; rfl
  | [], n + 1, _ => by simp [padL, padL_len (l := []) (n := n) (by simp)]
  | a :: t, n + 1, h => by simp only [padL, List.length_cons]; rw [padL_len (by simpa using h)]
theorem padL_nth : ∀ {l : ALs} {n k : Nat}, nth (padL l n) k none = nth l k none
  | l, 0, k => by simp [padL]
  | [], n + 1, 0 => rfl
  | [], n + 1, k + 1 => by
    show nth (padL [] n) k none = nth [] (k + 1) none
    rw [padL_nth, nth_nil, nth_nil]
  | a :: t, n + 1, 0 => rfl
  | a :: t, n + 1, k + 1 => padL_nth (l := t)
theorem ent_LR {ad : AK → Nat} {av : List AV} {n : Nat} (h : (entL av).length ≤ n) : LR ad n (padL (entL av) n) ((lg_sl (av.map (cv ad)) ++ List.replicate (n - (lg_sl (av.map (cv ad))).length) Slot.unset).toArray) := by
  have h1 := lv_entry (av.map (cv ad)) (n := n) (by rw [ent_len]; exact h)
  refine ⟨h1.1, h1.2.1, padL_len h, fun k v hv => ?_⟩
  rw [padL_nth] at hv
  obtain ⟨a1, -⟩ := ent_at ad av k v hv
  have hk : k < (lg_sl (av.map (cv ad))).length := (List.getElem?_eq_some_iff.mp a1).1
  simp only [List.getElem?_toArray]
  rw [List.getElem?_append_left hk]
  exact a1
