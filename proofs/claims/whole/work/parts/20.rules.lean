/-! RUNS, as a predicate over what they come to; one rule a kind of step -/
theorem go_fuel : ∀ {n k d M pc : Nat} {ls : ALs} {st : List AV} {mm : AMem} {o : Option AV × AMem}, go n d M pc ls st mm = some o → n ≤ k → go k d M pc ls st mm = some o
  | 0, _, _, _, _, _, _, _, _, h, _ => by simp [go] at h
  | n + 1, 0, _, _, _, _, _, _, _, _, hk => absurd hk (by omega)
  | n + 1, k + 1, d, M, pc, ls, st, mm, o, h, hk => by
    simp only [go] at h ⊢
    split at h
    next => cases h
    next q hq =>
      split at h
      next => cases h
      next pc' ls' st' mm' he => exact go_fuel h (by omega)
      next r' he => exact h
      next M' av rest pc' he =>
        split at h
        next => cases h
        next d' =>
          split at h
          next => cases h
          next r1 mm1 h1 =>
            rw [go_fuel h1 (show n ≤ k by omega)]
            exact go_fuel h (by omega)
def X (d M pc : Nat) (ls : ALs) (st : List AV) (mm : AMem) (Q : Option AV → AMem → Prop) : Prop := ∃ (n : Nat) (r : Option AV) (mm' : AMem), go n d M pc ls st mm = some (r, mm') ∧ Q r mm'
noncomputable def stp (M : Nat) : Nat → Nat → ALs → List AV → AMem → Option (Nat × ALs × List AV × AMem)
  | 0, pc, ls, st, mm => some (pc, ls, st, mm)
  | n + 1, pc, ls, st, mm => match fetch M pc with
    | none => none
    | some q => match ex M pc ls st mm q with
      | some (.inl (pc', ls', st', mm')) => stp M n pc' ls' st' mm'
      | _ => none
section XR
variable {d M pc : Nat} {ls : ALs} {st : List AV} {mm : AMem} {Q : Option AV → AMem → Prop}
theorem x_one {q : INS} {s : Nat × ALs × List AV × AMem} (hf : fetch M pc = some q) (he : ex M pc ls st mm q = some (.inl s)) : X d M pc ls st mm Q ↔ X d M s.1 s.2.1 s.2.2.1 s.2.2.2 Q := by
  constructor
  · rintro ⟨n, r, mm', h, hQ⟩
    cases n with
    | zero => simp [go] at h
    | succ n =>
      simp only [go, hf, he] at h
      exact ⟨n, r, mm', h, hQ⟩
  · rintro ⟨n, r, mm', h, hQ⟩
    refine ⟨n + 1, r, mm', ?_, hQ⟩
    simp only [go, hf, he]
    exact h
theorem x_run : ∀ (k : Nat) {pc : Nat} {ls : ALs} {st : List AV} {mm : AMem} {pc' : Nat} {ls' : ALs} {st' : List AV} {mm' : AMem}, stp M k pc ls st mm = some (pc', ls', st', mm') → (X d M pc ls st mm Q ↔ X d M pc' ls' st' mm' Q)
  | 0, _, _, _, _, _, _, _, _, h => by
    simp only [stp] at h
    cases h
    exact Iff.rfl
  | k + 1, pc, ls, st, mm, pc', ls', st', mm', h => by
    simp only [stp] at h
    split at h
    next => cases h
    next q hq =>
      split at h
      next pc1 ls1 st1 mm1 he => exact (x_one (s := (pc1, ls1, st1, mm1)) hq he).trans (x_run k h)
      next => cases h
theorem x_ret {q : INS} {r : Option AV} (hf : fetch M pc = some q) (he : ex M pc ls st mm q = some (.inr (.inl r))) : X d M pc ls st mm Q ↔ Q r mm := by
  constructor
  · rintro ⟨n, r', mm', h, hQ⟩
    cases n with
    | zero => simp [go] at h
    | succ n =>
      simp only [go, hf, he] at h
      cases h
      exact hQ
  · intro hQ
    refine ⟨1, r, mm, ?_, hQ⟩
    simp only [go, hf, he]
theorem x_call {q : INS} {M' : Nat} {av rest : List AV} {pc' : Nat} (hf : fetch M pc = some q) (he : ex M pc ls st mm q = some (.inr (.inr (M', av, rest, pc')))) : X (d + 1) M pc ls st mm Q ↔ X d M' 0 (entry M' av) [] mm (fun r mm' => X (d + 1) M pc' ls (r.toList ++ rest) mm' Q) := by
  constructor
  · rintro ⟨n, r, mm', h, hQ⟩
    cases n with
    | zero => simp [go] at h
    | succ n =>
      simp only [go, hf, he] at h
      split at h
      next => cases h
      next r1 mm1 h1 => exact ⟨n, r1, mm1, h1, n, r, mm', h, hQ⟩
  · rintro ⟨n1, r1, mm1, h1, n2, r, mm', h, hQ⟩
    refine ⟨max n1 n2 + 1, r, mm', ?_, hQ⟩
    simp only [go, hf, he]
    rw [go_fuel h1 (Nat.le_max_left _ _)]
    exact go_fuel h (Nat.le_max_right _ _)
theorem x_mono {Q' : Option AV → AMem → Prop} (h : X d M pc ls st mm Q) (hQ : ∀ r mm', Q r mm' → Q' r mm') : X d M pc ls st mm Q' := by
  obtain ⟨n, r, mm', h1, h2⟩ := h
  exact ⟨n, r, mm', h1, hQ r mm' h2⟩
end XR
