theorem Fin.next {p : Program} {l : Launch} {e : Env} {R : Room} {s : State} {m : MethodId} {args : Array Value} {below : List Frame} {meth : Method} {c : Code} {Q : State → Prop} {D : va_G} {dA : Nat → ClassId} {A : Nat → Prop} {N0 S0 M N N' : Nat} {ad ad' : AK → Nat} {r : Option AV} {mmF : AMem} (h : Fin p l e R s m args below meth c Q D dA A N0 S0 M N ad r mmF) (hN : N ≤ N') (hag : ∀ j, j < N → ad' (nm j) = ad (nm j)) : Fin p l e R s m args below meth c Q D dA A N0 S0 M N' ad' r mmF :=
  fun ad2 pc lsc H locs cells slots hag2 => h ad2 pc lsc H locs cells slots (fun j hj => (hag2 j (Nat.lt_of_lt_of_le hj hN)).trans (hag j hj))
theorem snd_all : ∀ n, SND n := by
  intro n
  induction n with
  | zero =>
    intro d M pc ls st mm r mmF h
    simp [go] at h
  | succ n ih =>
    intro d M pc ls st mm r mmF h p l e R s m args below meth c Q D dA A sg nL N0 S0 ad C hnL hsg hR hfin
    simp only [go] at h
    split at h
    next => cases h
    next q hq =>
      split at h
      next => cases h
      next pc' ls' st' mm' he =>
        have hmo := (go_mono h).1
        have hMo : mm.2.1 ≤ mm'.2.1 ∧ mm.2.2 ≤ mm'.2.2 := by
          rcases ex_inv he with ⟨nxt, e1, e2, e3⟩ | ⟨kind, i, -, e1⟩ | ⟨-, x, -, e1, -⟩ | ⟨-, x, -, e1⟩ | ⟨-, -, e1⟩
          · cases e1
            exact e2
          · exact (call_inl e1).elim
          · cases e1
          · cases e1
          · cases e1
        obtain ⟨r1, r2, r3, r4⟩ := id hR
        refine step_ok C hq hnL hsg ⟨by omega, by omega⟩ ⟨by omega, by omega⟩ ⟨by show mm'.2.1 ≤ _; omega, by show mm'.2.2 ≤ _; omega⟩ he (fun ad' hag h99 => ?_)
        exact ih d M pc' ls' st' mm' r mmF h p l e R s m args below meth c Q D dA A sg nL N0 S0 ad' C hnL hsg hR (hfin.next hMo.1 hag)
      next r' he =>
        cases h
        obtain ⟨hd, hc⟩ := fetch_ok hq
        have hln := fetch_len hq
        intro H locs lsc cells slots hr
        rcases ex_inv he with ⟨nxt, e1, -⟩ | ⟨kind, i, -, e1⟩ | ⟨e0, x, e2, e1, e3⟩ | ⟨e0, x, e2, e1⟩ | ⟨e0, e2, e1⟩
        · cases e1
        · have := (call_facts e1).1
          cases this
        · cases e1
          subst e2
          rw [e0] at hln hd
          replace hln : q.2.1 = 1 := hln.resolve_left (show ¬ (1 : Nat) = 0 by decide)
          rw [hln] at hd
          unfold chkA at hc
          rw [e0] at hc
          simp only [Bool.or_eq_true, Bool.and_eq_true, decide_eq_true_eq] at hc
          have hx : i32 x := ok_hd hr.oks
          refine hfin ad pc lsc H locs cells slots (fun _ _ => rfl) ⟨hd, hx, ?_⟩ hr.1 hr.2.1 hr.2.2.1 hr.2.2.2.1 hr.2.2.2.2.2.2.2.1 hr.2.2.2.2.2.2.2.2.1
          rcases hc with ⟨g1, g2⟩ | ⟨g1, g2⟩
          · exact Or.inl g2
          · refine Or.inr ⟨g2, ?_⟩
            rcases e3 with e3 | e3
            · have z1 := Nat.eq_of_beq_eq_true g1
              have z0 := Nat.eq_of_beq_eq_true e3
              omega
            · exact e3
        · cases e1
          subst e2
          rw [e0] at hln hd
          replace hln : q.2.1 = 1 := hln.resolve_left (show ¬ (1 : Nat) = 0 by decide)
          rw [hln] at hd
          unfold chkA at hc
          rw [e0] at hc
          have hx : i64 x := ok_hd hr.oks
          exact hfin ad pc lsc H locs cells slots (fun _ _ => rfl) ⟨hd, hx, of_decide_eq_true hc⟩ hr.1 hr.2.1 hr.2.2.1 hr.2.2.2.1 hr.2.2.2.2.2.2.2.1 hr.2.2.2.2.2.2.2.2.1
        · cases e1
          subst e2
          rw [e0] at hln hd
          replace hln : q.2.1 = 1 := hln.resolve_left (show ¬ (1 : Nat) = 0 by decide)
          rw [hln] at hd
          unfold chkA at hc
          rw [e0] at hc
          exact hfin ad pc lsc H locs cells slots (fun _ _ => rfl) ⟨hd, of_decide_eq_true hc⟩ hr.1 hr.2.1 hr.2.2.1 hr.2.2.2.1 hr.2.2.2.2.2.2.2.1 hr.2.2.2.2.2.2.2.2.1
      next M' av rest pc' he =>
        split at h
        next => cases h
        next d' =>
          split at h
          next => cases h
          next r1 mm1 h1 =>
            have g1 := (go_mono h1).1
            have g2 := (go_mono h).1
            rcases ex_inv he with ⟨nxt, e1, -⟩ | ⟨kind, i, hk, e1⟩ | ⟨-, x, -, e1, -⟩ | ⟨-, x, -, e1⟩ | ⟨-, -, e1⟩
            · cases e1
            · refine sn_call C ih hq hnL hsg hR hk e1 h1 g2 (fun ad' hag h99 => ?_)
              exact ih (d' + 1) M pc' ls (r1.toList ++ rest) mm1 r mmF h p l e R s m args below meth c Q D dA A sg nL N0 S0 ad' C hnL hsg hR (hfin.next g1.1 hag)
            · cases e1
            · cases e1
            · cases e1
