/-! A METHOD'S CONTRACT out of a run of it -/
theorem wsM_good : ∀ w ∈ gw, (w.onTables && w.keeps) = true ∨ ∃ ty, w = .arrayClass ty := fun w h => good_of_word (List.mem_filter.mp h).2
theorem met_ok {n : Nat} (ih : SND n) {d M : Nat} {av : List AV} {mm mmF : AMem} {r : Option AV} (hgo : go n d M 0 (entry M av) [] mm = some (r, mmF)) (h0 : 0 < M) (h1 : M < NM) (hav : ∀ v ∈ av, okv mm.2.1 false v) (hM : okM mm) (hent : (entL av).length ≤ (minf M).2.2.1) (l : Launch) (D : va_G) (dA : Nat → ClassId) (ad : AK → Nat) (sz : Nat) :
    Met l (minf M).1 (wsM M) (rmD d (mmF.2.1 - mm.2.1) (mmF.2.2 - mm.2.2)) (Pcc D dA ad mm av sz) (Qg D dA ad mm r mmF (va_A (wl dA ad mm) sz)) (mmF.2.1 - mm.2.1) (mmF.2.2 - mm.2.2) (va_A (wl dA ad mm) sz) := by
  obtain ⟨hcode, hN⟩ := cm_all h0 h1
  unfold chkN at hN
  simp only [Bool.and_eq_true, decide_eq_true_eq] at hN
  have hplain : plainName (minf M).1.cls = true := hN.2
  have hmo := (go_mono hgo).1
  refine Met.ofW (cc := (minf M).2.1) (maxL := (minf M).2.2.1) (ret := (minf M).2.2.2.1) hplain rfl ?_
  intro p e s m args below meth c s₁ B hml hv
  obtain ⟨rfl, hsz, hP, hK, hD0, hO, hNw⟩ := hv
  subst hsz
  have hts := atoms_spec (ws := wsM M) B.pre
  have hlocks := B.notSynchronized
  have hr := B.returns
  have hD := hD0.self (sz := s.heap.size)
  generalize hAe : va_A (wl dA ad mm) s.heap.size = A at hD ⊢
  have hA : ∀ q : Nat, s.heap.size ≤ q → A q := fun q h => by rw [← hAe]; exact Or.inr h
  have C : Cx p s m (av.map (cv ad)).toArray meth c D dA A M := ⟨B.exec, B.bytes, hml, findClass_of_methodNamed B.named, fun w hw => hts w (List.mem_cons_of_mem _ hw), hK, hA, (name_of_methodNamed B.named B.method).1, hO, hNw⟩
  rw [lg_entry_eq]
  have key := ih d M 0 (entry M av) [] mm r mmF hgo p l e (rmD d (mmF.2.1 - mm.2.1) (mmF.2.2 - mm.2.2)) s m (av.map (cv ad)).toArray below meth c (MQ below (Qg D dA ad mm r mmF A) (av.map (cv ad)).toArray s (mmF.2.1 - mm.2.1) (mmF.2.2 - mm.2.2) A) D dA A false (minf M).2.2.1 mm.2.1 mm.2.2 ad C hml (fun _ => rfl)
    ⟨Nat.le_refl _, Nat.le_refl _, by show mmF.2.1 ≤ mmF.2.1 - mm.2.1 + mm.2.1; omega, by show mmF.2.2 ≤ mmF.2.2 - mm.2.2 + mm.2.2; omega⟩ ?_
  · refine key s.heap [] _ 0 0 ⟨hP, hD, va_S.rf, hM, ent_LR hent, fun k v hv => ?_, (fun v hv => by cases hv), (by show 0 + mm.2.1 = mm.2.1; omega), (by show 0 + mm.2.2 = mm.2.2; omega), (fun h => by cases h)⟩
    have hv : nth (padL (entL av) (minf M).2.2.1) k none = some v := hv
    rw [padL_nth] at hv
    exact hav v (ent_at ad av k v hv).2
  · intro ad' pc lsc H locs cells slots hag hrf hP1 hD1 hS1 hM1 hc1 hs1
    have ec : cells = mmF.2.1 - mm.2.1 := by omega
    have es : slots = mmF.2.2 - mm.2.2 := by omega
    subst ec es
    have post : ∀ (v : Option Value), v = r.map (cv ad') → (∀ w, r = some w → okv mmF.2.1 false w) → ∀ t : State, t.heap = H → s.WarmedH t.vm → Qg D dA ad mm r mmF A (av.map (cv ad)).toArray s (.returned v) t := fun v hv hok t ht _ => ⟨⟨ad', by rw [hv], hag, by rw [ht]; exact hP1, hD1, hM1, hok⟩, hS1.F ht⟩
    rcases r with _ | x | x | y
    · exact W.vret B.exec B.bytes (hr.trans hrf.2) (post _ rfl (fun w h => by cases h)) hS1.2.2 hrf.1
    · obtain ⟨g1, g2, g3⟩ := hrf
      have hq := post (some (.int (Int32.ofInt x))) rfl (fun w h => by cases h; exact g2)
      rcases g3 with g3 | ⟨g3, g4⟩
      · exact W.iret B.exec B.bytes (hr.trans g3) hq hS1.2.2 g1
      · refine W.zret (ty := .boolean) B.exec B.bytes (hr.trans g3) ?_ hq hS1.2.2 g1
        rcases g4 with rfl | rfl <;> decide
    · obtain ⟨g1, g2, g3⟩ := hrf
      exact W.lret B.exec B.bytes (hr.trans g3) (post (some (.long (Int64.ofInt x))) rfl (fun w h => by cases h; exact g2)) hS1.2.2 g1
    · exact hrf.elim
section CG
variable {p : Program} {l : Launch} {e : Env} {R : Room} {s : State} {m : MethodId} {args : Array Value} {below : List Frame} {meth : Method} {c : Code} {H : Heap} {locs : List Loc} {cells slots : Nat} {Q : State → Prop}
variable {pc : Nat} {lsc : Array Slot} {rest st0 : List Value} {a : Array Value} {A0 A1 : Nat → Prop} {H0 : Heap} {mc ms : Nat} {free : Addr → Prop}
theorem callG {D : va_G} {dA : Nat → ClassId} {ad : AK → Nat} {mm mmF : AMem} {r : Option AV} (hr : va_Run p l e R s m args below meth c H locs cells slots mc ms (F0 m pc lsc st0) rest (Qg D dA ad mm r mmF A1 a) free) (hS : va_S A0 H0 H locs) (hA : ∀ q, q < H.size → A1 q → A0 q) (hf : ∀ q, free q → A0 q)
    (kk : ∀ (ad' : AK → Nat) (H1 : Heap) (locs1 : List Loc), (∀ j, j < mm.2.1 → ad' (nm j) = ad (nm j)) → va_P D vwCl (wl dA ad' mmF) H1 → va_D A1 (wl dA ad' mmF) → okM mmF → (∀ v, r = some v → okv mmF.2.1 false v) → va_S A0 H0 H1 locs1 → W p l e R s m args below meth c H1 locs1 (cells + mc) (slots + ms) Q (F0 m (pc + 3) lsc (r.toList.map (cv ad') ++ rest))) : W p l e R s m args below meth c H locs cells slots Q (F0 m pc lsc st0) := by
  intro T hT X
  obtain ⟨v, st₀, t, T', L, h0, X', hL, e1, e2, ⟨⟨ad', hv, hag, hP, hD, hM, hok⟩, hz, hk⟩, st⟩ := hr T hT X
  rw [h0] at hz hk
  have hv2 : v = r.map (cv ad') := by cases hv; rfl
  subst hv2
  obtain ⟨t2, a1, b1⟩ := kk ad' T'.heap (locs ++ L) hag (by rw [e1]; exact hP) hD hM hok
    ⟨Nat.le_trans hS.1 (by rw [e1]; exact hz), fun q h1 h2 => by rw [e1, hk q (Nat.lt_of_lt_of_le h1 hS.1) (fun z => h2 (hA q (Nat.lt_of_lt_of_le h1 hS.1) z))]; exact hS.2.1 q h1 h2, fun q hq => by
      rcases List.mem_append.mp hq with h | h
      · exact hS.2.2 q h
      · exact hf _ (hL q h)⟩ T' rfl X'
  have e3 : (r.map (cv ad')).toList ++ rest = r.toList.map (cv ad') ++ rest := by cases r <;> rfl
  refine ⟨t2, st t2 ?_, b1⟩
  rw [← e3] at a1
  exact a1
end CG
