/-! WHAT AN ABSTRACT STATE STANDS FOR -/
def cv (ad : AK → Nat) (v : AV) : Value := match v with
  | .inl x => .int (Int32.ofInt x)
  | .inr (.inl x) => .long (Int64.ofInt x)
  | .inr (.inr (some k)) => .ref (ad k)
  | .inr (.inr none) => .null
def ce (dA : Nat → ClassId) (ad : AK → Nat) (e : AE) : va_E := match e with
  | .inl (kd, n, f) => .inl (dA kd, n, .inl (fun j => Int32.ofInt (f j)))
  | .inr (.inl (kd, n, f)) => .inl (dA kd, n, .inr (.inr (.inr (.inr (fun j => (f j).map ad)))))
  | .inr (.inr (c, f)) => .inr (c, (List.range (clK c)).map (fun k => cv ad (f k)))
def tyA (dA : Nat → ClassId) : List (ClassId × FieldType) := [(dA 0, .int), (dA 1, .boolean), (dA 2, .object "FerryChange$Ferry"), (dA 3, .object "FerryChange$Row")]
def wl (dA : Nat → ClassId) (ad : AK → Nat) (mm : AMem) : va_W := (List.range mm.2.1).map (fun j => (ad (nm j), ce dA ad (mm.1 (nm j))))
def okv (N : Nat) (sg : Bool) (v : AV) : Prop := match v with
  | .inl x => i32 x
  | .inr (.inl x) => i64 x
  | .inr (.inr (some k)) => (∃ j, j < N ∧ nm j = k) ∨ (sg = true ∧ k = (99, 0))
  | .inr (.inr none) => True
def okE (N : Nat) (e : AE) : Prop := match e with
  | .inl (kd, n, f) => kd < 2 ∧ n < 2147483648 ∧ ∀ j, i32 (f j)
  | .inr (.inl (kd, n, f)) => (kd = 2 ∨ kd = 3) ∧ n < 2147483648 ∧ ∀ j k, f j = some k → ∃ i, i < N ∧ nm i = k
  | .inr (.inr (c, f)) => c < 5 ∧ ∀ b, okv N false (f b)
def okM (mm : AMem) : Prop := mm.2.1 ≤ NTOT ∧ ∀ j, j < mm.2.1 → okE mm.2.1 (mm.1 (nm j))
theorem okv_mono {N N' : Nat} {sg : Bool} {v : AV} (h : N ≤ N') (k : okv N sg v) : okv N' sg v := by
  rcases v with x | x | (_ | x)
  · exact k
  · exact k
  · trivial
  · rcases k with ⟨j, h1, h2⟩ | k
    · exact Or.inl ⟨j, Nat.lt_of_lt_of_le h1 h, h2⟩
    · exact Or.inr k
theorem okv_true {N : Nat} {sg : Bool} {v : AV} (k : okv N false v) : okv N sg v := by
  rcases v with x | x | (_ | x)
  · exact k
  · exact k
  · trivial
  · rcases k with k | ⟨k, _⟩
    · exact Or.inl k
    · cases k
theorem okE_mono {N N' : Nat} {e : AE} (h : N ≤ N') (k : okE N e) : okE N' e := by
  rcases e with ⟨a, n, f⟩ | ⟨a, n, f⟩ | ⟨a, f⟩
  · exact k
  · refine ⟨k.1, k.2.1, fun j q hq => ?_⟩
    obtain ⟨i, h1, h2⟩ := k.2.2 j q hq
    exact ⟨i, Nat.lt_of_lt_of_le h1 h, h2⟩
  · exact ⟨k.1, fun b => okv_mono h (k.2 b)⟩
theorem nm_injB : ((List.range 81).all fun i => (List.range 81).all fun j => Nat.beq i j || !decide (nm i = nm j)) = true := by decide +kernel
theorem nm_99B : ((List.range 81).all fun i => !decide (nm i = (99, 0))) = true := by decide +kernel
theorem nm_inj {i j : Nat} (hi : i < NTOT) (hj : j < NTOT) (h : nm i = nm j) : i = j := by
  have h1 := List.all_eq_true.mp nm_injB i (List.mem_range.mpr hi)
  have h2 := List.all_eq_true.mp h1 j (List.mem_range.mpr hj)
  simp [h] at h2
  exact h2
theorem nm_99 {i : Nat} (hi : i < NTOT) : nm i ≠ (99, 0) := by
  have h1 := List.all_eq_true.mp nm_99B i (List.mem_range.mpr hi)
  simpa using h1
theorem wl_len (dA : Nat → ClassId) (ad : AK → Nat) (mm : AMem) : (wl dA ad mm).length = mm.2.1 := by simp [wl]
theorem wl_get {dA : Nat → ClassId} {ad : AK → Nat} {mm : AMem} {j : Nat} (h : j < mm.2.1) : (wl dA ad mm)[j]? = some (ad (nm j), ce dA ad (mm.1 (nm j))) := by
  simp [wl, h]
theorem wl_get2 {dA : Nat → ClassId} {ad : AK → Nat} {mm : AMem} {j : Nat} {k : AK} {e : AE} (h : j < mm.2.1) (hk : nm j = k) (he : mm.1 k = e) : (wl dA ad mm)[j]? = some (ad k, ce dA ad e) := by
  subst hk; subst he; exact wl_get h
theorem wl_set {dA : Nat → ClassId} {ad : AK → Nat} {mm : AMem} {j : Nat} {k : AK} (e : AE) (hM : mm.2.1 ≤ NTOT) (h : j < mm.2.1) (hk : nm j = k) : (wl dA ad mm).set j (ad k, ce dA ad e) = wl dA ad (upM mm.1 k e, mm.2) := by
  subst hk
  apply List.ext_getElem?
  intro i
  rw [List.getElem?_set]
  by_cases hi : i < mm.2.1
  · by_cases hij : j = i
    · subst hij
      simp [wl, hi, upM]
    · have hne : nm i ≠ nm j := fun q => hij (nm_inj (Nat.lt_of_lt_of_le h hM) (Nat.lt_of_lt_of_le hi hM) q.symm)
      simp [wl, hi, hij, upM, hne]
  · simp [wl, hi]
    omega
theorem cv_congr {N : Nat} {ad ad' : AK → Nat} (hag : ∀ j, j < N → ad' (nm j) = ad (nm j)) {v : AV} (h : okv N false v) : cv ad' v = cv ad v := by
  rcases v with x | x | (_ | x)
  · rfl
  · rfl
  · rfl
  · rcases h with ⟨j, h1, h2⟩ | ⟨h, _⟩
    · show Value.ref _ = Value.ref _
      rw [← h2, hag j h1]
    · cases h
theorem cv_congr2 {N : Nat} {sg : Bool} {ad ad' : AK → Nat} (hag : ∀ j, j < N → ad' (nm j) = ad (nm j)) (h99 : ad' (99, 0) = ad (99, 0)) {v : AV} (h : okv N sg v) : cv ad' v = cv ad v := by
  rcases v with x | x | (_ | x)
  · rfl
  · rfl
  · rfl
  · rcases h with ⟨j, h1, h2⟩ | ⟨_, h⟩
    · show Value.ref _ = Value.ref _
      rw [← h2, hag j h1]
    · show Value.ref _ = Value.ref _
      rw [h, h99]
theorem ce_congr {N : Nat} {dA : Nat → ClassId} {ad ad' : AK → Nat} (hag : ∀ j, j < N → ad' (nm j) = ad (nm j)) {e : AE} (h : okE N e) : ce dA ad' e = ce dA ad e := by
  rcases e with ⟨a, n, f⟩ | ⟨a, n, f⟩ | ⟨a, f⟩
  · rfl
  · have e : (fun j => (f j).map ad') = (fun j => (f j).map ad) := by
      funext j
      cases hj : f j with
      | none => rfl
      | some q =>
        obtain ⟨i, h1, h2⟩ := h.2.2 j q hj
        show some _ = some _
        rw [← h2, hag i h1]
    show Sum.inl (dA a, n, Sum.inr (Sum.inr (Sum.inr (Sum.inr (fun j => (f j).map ad'))))) = _
    rw [e]
    rfl
  · show Sum.inr _ = Sum.inr _
    congr 2
    apply List.map_congr_left
    intro b _
    exact cv_congr hag (h.2 b)
def adU (ad : AK → Nat) (k : AK) (q : Nat) : AK → Nat := fun x => if x = k then q else ad x
theorem adU_old {ad : AK → Nat} {N q : Nat} (hN : N < NTOT) {j : Nat} (hj : j < N) : adU ad (nm N) q (nm j) = ad (nm j) := by
  have : nm j ≠ nm N := fun h => by
    have := nm_inj (Nat.lt_trans hj hN) hN h
    omega
  simp [adU, this]
theorem adU_99 {ad : AK → Nat} {N q : Nat} (hN : N < NTOT) : adU ad (nm N) q (99, 0) = ad (99, 0) := by
  have : (99, 0) ≠ nm N := fun h => nm_99 hN h.symm
  simp [adU, this]
theorem wl_push {dA : Nat → ClassId} {ad : AK → Nat} {mm : AMem} {q S : Nat} (e : AE) (hM : okM mm) (hN : mm.2.1 < NTOT) : wl dA (adU ad (nm mm.2.1) q) (upM mm.1 (nm mm.2.1) e, mm.2.1 + 1, S) = wl dA ad mm ++ [(q, ce dA (adU ad (nm mm.2.1) q) e)] := by
  unfold wl
  dsimp only
  rw [List.range_succ, List.map_append]
  congr 1
  · apply List.map_congr_left
    intro j hj
    have hj := List.mem_range.mp hj
    have hne : nm j ≠ nm mm.2.1 := fun h => by
      have := nm_inj (Nat.lt_trans hj hN) hN h
      omega
    rw [adU_old hN hj]
    have e1 : upM mm.1 (nm mm.2.1) e (nm j) = mm.1 (nm j) := by simp [upM, hne]
    rw [e1, ce_congr (fun i hi => adU_old hN hi) (hM.2 j hj)]
  · simp [adU, upM]
/-! LOCALS -/
def LR (ad : AK → Nat) (nL : Nat) (ls : ALs) (lsc : Array Slot) : Prop := lsc.size = nL ∧ lv_wf lsc ∧ ls.length = nL ∧ ∀ k v, nth ls k none = some v → lsc[k]? = some (.val (cv ad v))
def asc (ad : AK → Nat) (ls : ALs) : List (Nat × Value) := (List.range ls.length).filterMap (fun k => (nth ls k none).map (fun v => (k, cv ad v)))
theorem nth_lt {α : Type} : ∀ {l : List (Option α)} {k : Nat} {v : α}, nth l k none = some v → k < l.length
  | [], _, _, h => by simp [nth] at h
  | _ :: _, 0, _, _ => by simp
  | _ :: t, n + 1, _, h => by
    have := nth_lt (l := t) (k := n) h
    simp; omega
theorem asc_mem {ad : AK → Nat} {ls : ALs} {q : Nat × Value} : q ∈ asc ad ls ↔ ∃ v, nth ls q.1 none = some v ∧ q.2 = cv ad v := by
  unfold asc
  rw [List.mem_filterMap]
  constructor
  · rintro ⟨k, hk, h⟩
    rw [Option.map_eq_some_iff] at h
    obtain ⟨v, h1, h2⟩ := h
    subst h2
    exact ⟨v, h1, rfl⟩
  · rintro ⟨v, h1, h2⟩
    refine ⟨q.1, List.mem_range.mpr (nth_lt h1), ?_⟩
    rw [h1]
    show some (q.1, cv ad v) = some q
    rw [← h2]
theorem LR_has {ad : AK → Nat} {nL : Nat} {ls : ALs} {lsc : Array Slot} (h : LR ad nL ls lsc) : lv_has lsc nL (asc ad ls) := by
  refine ⟨h.1, h.2.1, fun q hq => ?_⟩
  obtain ⟨v, h1, h2⟩ := asc_mem.mp hq
  rw [h2]
  exact h.2.2.2 q.1 v h1
theorem kl_some {o : Option AV} {v : AV} (h : kl o = some v) : o = some v ∧ ∀ ad, (cv ad v).category ≠ 2 := by
  rcases o with _ | x | x | (_ | x)
  · simp [kl] at h
  · simp only [kl] at h
    cases h
    exact ⟨rfl, fun ad => by simp [cv, Value.category]⟩
  · simp [kl] at h
  · simp only [kl] at h
    cases h
    exact ⟨rfl, fun ad => by simp [cv, Value.category]⟩
  · simp only [kl] at h
    cases h
    exact ⟨rfl, fun ad => by simp [cv, Value.category]⟩
theorem setL_spec : ∀ {ls : ALs} {k : Nat} {v : AV} {ls' : ALs}, setL ls k v = some ls' → k < ls.length ∧ ls'.length = ls.length ∧ nth ls' k none = some v ∧ (∀ j, j + 1 = k → nth ls' j none = kl (nth ls j none)) ∧ ∀ j, j ≠ k → j + 1 ≠ k → nth ls' j none = nth ls j none
  | [], k, v, ls', h => by simp [setL] at h
  | o :: t, 0, v, ls', h => by
    simp only [setL] at h
    cases h
    refine ⟨by simp, by simp, rfl, fun j hj => by omega, fun j hj _ => ?_⟩
    cases j with
    | zero => exact absurd rfl hj
    | succ j => rfl
  | [o], k + 1, v, ls', h => by simp [setL] at h
  | o :: o2 :: t, 1, v, ls', h => by
    simp only [setL] at h
    cases h
    refine ⟨by simp, by simp, rfl, fun j hj => ?_, fun j hj hj2 => ?_⟩
    · have : j = 0 := by omega
      subst this; rfl
    · match j, hj, hj2 with
      | 0, _, h2 => exact absurd rfl h2
      | 1, h1, _ => exact absurd rfl h1
      | j + 2, _, _ => rfl
  | o :: o2 :: t, k + 2, v, ls', h => by
    simp only [setL] at h
    split at h
    next t' ht =>
      cases h
      obtain ⟨a, b, c, d, e⟩ := setL_spec ht
      refine ⟨by simp at a ⊢; omega, by simp [b], c, fun j hj => ?_, fun j hj hj2 => ?_⟩
      · match j, hj with
        | j + 1, hj => exact d j (by omega)
        | 0, hj => omega
      · match j, hj, hj2 with
        | 0, _, _ => rfl
        | j + 1, h1, h2 => exact e j (by omega) (by omega)
    next => cases h
theorem setW_spec : ∀ {ls : ALs} {k : Nat} {v : AV} {ls' : ALs}, setW ls k v = some ls' → k + 1 < ls.length ∧ ls'.length = ls.length ∧ nth ls' k none = some v ∧ nth ls' (k + 1) none = none ∧ (∀ j, j + 1 = k → nth ls' j none = kl (nth ls j none)) ∧ ∀ j, j ≠ k → j ≠ k + 1 → j + 1 ≠ k → nth ls' j none = nth ls j none
  | [], k, v, ls', h => by simp [setW] at h
  | [o], 0, v, ls', h => by simp [setW] at h
  | [o], 1, v, ls', h => by simp [setW] at h
  | o :: o2 :: t, 0, v, ls', h => by
    simp only [setW] at h
    cases h
    refine ⟨by simp, by simp, rfl, rfl, fun j hj => by omega, fun j hj hj1 _ => ?_⟩
    match j, hj, hj1 with
    | 0, h, _ => exact absurd rfl h
    | 1, _, h => exact absurd rfl h
    | j + 2, _, _ => rfl
  | [o, o2], 1, v, ls', h => by simp [setW] at h
  | o :: o2 :: o3 :: t, 1, v, ls', h => by
    simp only [setW] at h
    cases h
    refine ⟨by simp, by simp, rfl, rfl, fun j hj => ?_, fun j hj hj1 hj2 => ?_⟩
    · have : j = 0 := by omega
      subst this; rfl
    · match j, hj, hj1, hj2 with
      | 0, _, _, h => exact absurd rfl h
      | 1, h, _, _ => exact absurd rfl h
      | 2, _, h, _ => exact absurd rfl h
      | j + 3, _, _, _ => rfl
  | o :: t, k + 2, v, ls', h => by
    simp only [setW] at h
    split at h
    next t' ht =>
      cases h
      obtain ⟨a, b, c, c2, d, e⟩ := setW_spec ht
      refine ⟨by simp at a ⊢; omega, by simp [b], c, c2, fun j hj => ?_, fun j hj hj1 hj2 => ?_⟩
      · match j, hj with
        | j + 1, hj => exact d j (by omega)
        | 0, hj => omega
      · match j, hj, hj1, hj2 with
        | 0, _, _, _ => rfl
        | j + 1, h1, h2, h3 => exact e j (by omega) (by omega) (by omega)
    next => cases h
theorem LR_set {ad : AK → Nat} {nL k : Nat} {ls ls' : ALs} {lsc lsc' : Array Slot} {v : AV} (h : LR ad nL ls lsc) (hs : setL ls k v = some ls') (hl : lv_has lsc' nL ((k, cv ad v) :: (asc ad ls).filter (fun q => !(q.1 == k) && !(q.1 + 1 == k && q.2.category == 2)))) : LR ad nL ls' lsc' := by
  obtain ⟨s1, s2, s3, s4, s5⟩ := setL_spec hs
  refine ⟨hl.1, hl.2.1, by rw [s2]; exact h.2.2.1, fun j w hw => ?_⟩
  by_cases hj : j = k
  · subst hj
    rw [s3] at hw
    cases hw
    exact hl.2.2 (j, cv ad v) List.mem_cons_self
  · have key : ∀ u, nth ls j none = some u → (cv ad u).category ≠ 2 ∨ j + 1 ≠ k → lsc'[j]? = some (.val (cv ad u)) := by
      intro u hu hc
      refine hl.2.2 (j, cv ad u) (List.mem_cons_of_mem _ (List.mem_filter.mpr ⟨asc_mem.mpr ⟨u, hu, rfl⟩, ?_⟩))
      rcases hc with hc | hc <;> simp [hj, hc]
    by_cases hj2 : j + 1 = k
    · rw [s4 j hj2] at hw
      obtain ⟨h1, h2⟩ := kl_some hw
      exact key w h1 (Or.inl (h2 ad))
    · rw [s5 j hj hj2] at hw
      exact key w hw (Or.inr hj2)
theorem LR_setW {ad : AK → Nat} {nL k : Nat} {ls ls' : ALs} {lsc lsc' : Array Slot} {v : AV} (h : LR ad nL ls lsc) (hs : setW ls k v = some ls') (hl : lv_has lsc' nL ((k, cv ad v) :: (asc ad ls).filter (fun q => !(q.1 == k) && (!(q.1 == k + 1) && !(q.1 + 1 == k && q.2.category == 2))))) : LR ad nL ls' lsc' := by
  obtain ⟨s1, s2, s3, s3b, s4, s5⟩ := setW_spec hs
  refine ⟨hl.1, hl.2.1, by rw [s2]; exact h.2.2.1, fun j w hw => ?_⟩
  by_cases hj : j = k
  · subst hj
    rw [s3] at hw
    cases hw
    exact hl.2.2 (j, cv ad v) List.mem_cons_self
  · by_cases hj1 : j = k + 1
    · rw [hj1, s3b] at hw
      cases hw
    · have key : ∀ u, nth ls j none = some u → (cv ad u).category ≠ 2 ∨ j + 1 ≠ k → lsc'[j]? = some (.val (cv ad u)) := by
        intro u hu hc
        refine hl.2.2 (j, cv ad u) (List.mem_cons_of_mem _ (List.mem_filter.mpr ⟨asc_mem.mpr ⟨u, hu, rfl⟩, ?_⟩))
        rcases hc with hc | hc <;> simp [hj, hj1, hc]
      by_cases hj2 : j + 1 = k
      · rw [s4 j hj2] at hw
        obtain ⟨h1, h2⟩ := kl_some hw
        exact key w h1 (Or.inl (h2 ad))
      · rw [s5 j hj hj1 hj2] at hw
        exact key w hw (Or.inr hj2)
