/-! RUNS OF THE ABSTRACT MACHINE ARE RUNS OF THE JVM -/
def Mo (mm : AMem) (nxt : Nat × ALs × List AV × AMem) : Prop := mm.2.1 ≤ nxt.2.2.2.2.1 ∧ mm.2.2 ≤ nxt.2.2.2.2.2
def IL (mm : AMem) (o : ROut) : Prop := ∃ nxt, o = .inl nxt ∧ Mo mm nxt ∧ ∀ L f, mm.1 (99, 0) = .inl (4, L, f) → nxt.2.2.2.1 (99, 0) = .inl (4, L, f)
theorem il_nx {pc : Nat} {ls : ALs} {st : List AV} {mm : AMem} {o : ROut} (h : nx pc ls st mm = some o) : IL mm o := by
  unfold nx at h
  cases h
  exact ⟨_, rfl, ⟨Nat.le_refl _, Nat.le_refl _⟩, fun _ _ h => h⟩
theorem il_up {pc : Nat} {ls : ALs} {st : List AV} {mm : AMem} {o : ROut} {k : AK} {e : AE} (h : nx pc ls st (upM mm.1 k e, mm.2) = some o) (hk : ∀ L f, mm.1 k ≠ .inl (4, L, f)) : IL mm o := by
  unfold nx at h
  cases h
  refine ⟨_, rfl, ⟨Nat.le_refl _, Nat.le_refl _⟩, fun L f q => ?_⟩
  show upM mm.1 k e (99, 0) = _
  have hne : (99, 0) ≠ k := fun z => hk L f (by rw [← z]; exact q)
  simp [upM, hne, q]
theorem il_nw {pc : Nat} {ls : ALs} {st : List AV} {mm : AMem} {o : ROut} {e : AE} {w : Nat} (h : nx pc ls st (upM mm.1 (nm mm.2.1) e, mm.2.1 + 1, mm.2.2 + w) = some o) (hN : Nat.ble (mm.2.1 + 1) NTOT = true) : IL mm o := by
  unfold nx at h
  cases h
  refine ⟨_, rfl, ⟨Nat.le_succ _, Nat.le_add_right _ _⟩, fun L f q => ?_⟩
  show upM mm.1 (nm mm.2.1) e (99, 0) = _
  have hne : (99, 0) ≠ nm mm.2.1 := fun z => nm_99 (Nat.le_of_ble_eq_true hN) z.symm
  simp [upM, hne, q]
theorem cond_some {α : Type} {b : Bool} {x : Option α} {o : α} (h : (bif b then x else none) = some o) : b = true ∧ x = some o := by
  cases b
  · cases h
  · exact ⟨rfl, h⟩
theorem ite_some {α : Type} {b : Prop} [Decidable b] {x : Option α} {o : α} (h : (if b then x else none) = some o) : b ∧ x = some o := by
  split at h
  · next hb => exact ⟨hb, h⟩
  · cases h
theorem il_ldI {ls : ALs} {k pc : Nat} {st : List AV} {mm : AMem} {o : ROut} (h : ldI ls k pc st mm = some o) : IL mm o := by
  unfold ldI at h
  (repeat' split at h)
  all_goals first
    | (cases h; done)
    | (cases (cond_some h).2; done)
    | exact il_nx h
    | exact il_nx (cond_some h).2
    | exact il_nx (ite_some h).2
    | exact il_nx (ite_some (cond_some h).2).2
theorem il_ldL {ls : ALs} {k pc : Nat} {st : List AV} {mm : AMem} {o : ROut} (h : ldL ls k pc st mm = some o) : IL mm o := by
  unfold ldL at h
  (repeat' split at h)
  all_goals first
    | (cases h; done)
    | (cases (cond_some h).2; done)
    | exact il_nx h
    | exact il_nx (cond_some h).2
    | exact il_nx (ite_some h).2
    | exact il_nx (ite_some (cond_some h).2).2
theorem il_ldA {ls : ALs} {k pc : Nat} {st : List AV} {mm : AMem} {o : ROut} (h : ldA ls k pc st mm = some o) : IL mm o := by
  unfold ldA at h
  (repeat' split at h)
  all_goals first
    | (cases h; done)
    | (cases (cond_some h).2; done)
    | exact il_nx h
    | exact il_nx (cond_some h).2
    | exact il_nx (ite_some h).2
    | exact il_nx (ite_some (cond_some h).2).2
theorem il_stI {ls : ALs} {k pc : Nat} {st : List AV} {mm : AMem} {o : ROut} (h : stI ls k pc st mm = some o) : IL mm o := by
  unfold stI at h
  (repeat' split at h)
  all_goals first
    | (cases h; done)
    | (cases (cond_some h).2; done)
    | exact il_nx h
    | exact il_nx (cond_some h).2
    | exact il_nx (ite_some h).2
    | exact il_nx (ite_some (cond_some h).2).2
theorem il_stL {ls : ALs} {k pc : Nat} {st : List AV} {mm : AMem} {o : ROut} (h : stL ls k pc st mm = some o) : IL mm o := by
  unfold stL at h
  (repeat' split at h)
  all_goals first
    | (cases h; done)
    | (cases (cond_some h).2; done)
    | exact il_nx h
    | exact il_nx (cond_some h).2
    | exact il_nx (ite_some h).2
    | exact il_nx (ite_some (cond_some h).2).2
theorem il_stA {ls : ALs} {k pc : Nat} {st : List AV} {mm : AMem} {o : ROut} (h : stA ls k pc st mm = some o) : IL mm o := by
  unfold stA at h
  (repeat' split at h)
  all_goals first
    | (cases h; done)
    | (cases (cond_some h).2; done)
    | exact il_nx h
    | exact il_nx (cond_some h).2
    | exact il_nx (ite_some h).2
    | exact il_nx (ite_some (cond_some h).2).2
theorem il_bnI {f : Int → Int → Int} {pc : Nat} {ls : ALs} {st : List AV} {mm : AMem} {o : ROut} (h : bnI f pc ls st mm = some o) : IL mm o := by
  unfold bnI at h
  (repeat' split at h)
  all_goals first
    | (cases h; done)
    | (cases (cond_some h).2; done)
    | exact il_nx h
    | exact il_nx (cond_some h).2
    | exact il_nx (ite_some h).2
    | exact il_nx (ite_some (cond_some h).2).2
theorem il_bnD {f : Int → Int → Int} {pc : Nat} {ls : ALs} {st : List AV} {mm : AMem} {o : ROut} (h : bnD f pc ls st mm = some o) : IL mm o := by
  unfold bnD at h
  (repeat' split at h)
  all_goals first
    | (cases h; done)
    | (cases (cond_some h).2; done)
    | exact il_nx h
    | exact il_nx (cond_some h).2
    | exact il_nx (ite_some h).2
    | exact il_nx (ite_some (cond_some h).2).2
theorem il_bnL {f : Int → Int → Int} {pc : Nat} {ls : ALs} {st : List AV} {mm : AMem} {o : ROut} (h : bnL f pc ls st mm = some o) : IL mm o := by
  unfold bnL at h
  (repeat' split at h)
  all_goals first
    | (cases h; done)
    | (cases (cond_some h).2; done)
    | exact il_nx h
    | exact il_nx (cond_some h).2
    | exact il_nx (ite_some h).2
    | exact il_nx (ite_some (cond_some h).2).2
theorem il_bnM {f : Int → Int → Int} {pc : Nat} {ls : ALs} {st : List AV} {mm : AMem} {o : ROut} (h : bnM f pc ls st mm = some o) : IL mm o := by
  unfold bnM at h
  (repeat' split at h)
  all_goals first
    | (cases h; done)
    | (cases (cond_some h).2; done)
    | exact il_nx h
    | exact il_nx (cond_some h).2
    | exact il_nx (ite_some h).2
    | exact il_nx (ite_some (cond_some h).2).2
theorem il_br2 {f : Int → Int → Bool} {pc : Nat} {off : Int} {ls : ALs} {st : List AV} {mm : AMem} {o : ROut} (h : br2 f pc off ls st mm = some o) : IL mm o := by
  unfold br2 at h
  (repeat' split at h)
  all_goals first
    | (cases h; done)
    | (cases (cond_some h).2; done)
    | exact il_nx h
    | exact il_nx (cond_some h).2
    | exact il_nx (ite_some h).2
    | exact il_nx (ite_some (cond_some h).2).2
theorem il_br1 {f : Int → Bool} {pc : Nat} {off : Int} {ls : ALs} {st : List AV} {mm : AMem} {o : ROut} (h : br1 f pc off ls st mm = some o) : IL mm o := by
  unfold br1 at h
  (repeat' split at h)
  all_goals first
    | (cases h; done)
    | (cases (cond_some h).2; done)
    | exact il_nx h
    | exact il_nx (cond_some h).2
    | exact il_nx (ite_some h).2
    | exact il_nx (ite_some (cond_some h).2).2
theorem il_exGet {a b pc : Nat} {ls : ALs} {st : List AV} {mm : AMem} {o : ROut} (h : exGet a b pc ls st mm = some o) : IL mm o := by
  unfold exGet at h
  (repeat' split at h)
  all_goals first
    | (cases h; done)
    | (cases (cond_some h).2; done)
    | exact il_nx h
    | exact il_nx (cond_some h).2
    | exact il_nx (ite_some h).2
    | exact il_nx (ite_some (cond_some h).2).2
theorem il_exLd {pc : Nat} {ls : ALs} {st : List AV} {mm : AMem} {o : ROut} (h : exLd pc ls st mm = some o) : IL mm o := by
  unfold exLd at h
  (repeat' split at h)
  all_goals first
    | (cases h; done)
    | (cases (cond_some h).2; done)
    | exact il_nx h
    | exact il_nx (cond_some h).2
    | exact il_nx (ite_some h).2
    | exact il_nx (ite_some (cond_some h).2).2
theorem il_exLdZ {pc : Nat} {ls : ALs} {st : List AV} {mm : AMem} {o : ROut} (h : exLdZ pc ls st mm = some o) : IL mm o := by
  unfold exLdZ at h
  (repeat' split at h)
  all_goals first
    | (cases h; done)
    | (cases (cond_some h).2; done)
    | exact il_nx h
    | exact il_nx (cond_some h).2
    | exact il_nx (ite_some h).2
    | exact il_nx (ite_some (cond_some h).2).2
theorem il_exLdA {pc : Nat} {ls : ALs} {st : List AV} {mm : AMem} {o : ROut} (h : exLdA pc ls st mm = some o) : IL mm o := by
  unfold exLdA at h
  (repeat' split at h)
  all_goals first
    | (cases h; done)
    | (cases (cond_some h).2; done)
    | exact il_nx h
    | exact il_nx (cond_some h).2
    | exact il_nx (ite_some h).2
    | exact il_nx (ite_some (cond_some h).2).2
theorem il_exLen {pc : Nat} {ls : ALs} {st : List AV} {mm : AMem} {o : ROut} (h : exLen pc ls st mm = some o) : IL mm o := by
  unfold exLen at h
  (repeat' split at h)
  all_goals first
    | (cases h; done)
    | (cases (cond_some h).2; done)
    | exact il_nx h
    | exact il_nx (cond_some h).2
    | exact il_nx (ite_some h).2
    | exact il_nx (ite_some (cond_some h).2).2
theorem il_exObj {pc : Nat} {ls : ALs} {st : List AV} {mm : AMem} {o : ROut} (h : exObj pc ls st mm = some o) : IL mm o := by
  unfold exObj at h
  (repeat' split at h)
  all_goals first
    | (cases h; done)
    | (cases (cond_some h).2; done)
    | exact il_nx h
    | exact il_nx (cond_some h).2
    | exact il_nx (ite_some h).2
    | exact il_nx (ite_some (cond_some h).2).2
theorem il_exMx {b : Bool} {pc : Nat} {ls : ALs} {st : List AV} {mm : AMem} {o : ROut} (h : exMx b pc ls st mm = some o) : IL mm o := by
  unfold exMx at h
  (repeat' split at h)
  all_goals first
    | (cases h; done)
    | (cases (cond_some h).2; done)
    | exact il_nx h
    | exact il_nx (cond_some h).2
    | exact il_nx (ite_some h).2
    | exact il_nx (ite_some (cond_some h).2).2
theorem il_exPut {M a b pc : Nat} {ls : ALs} {st : List AV} {mm : AMem} {o : ROut} (h : exPut M a b pc ls st mm = some o) : IL mm o := by
  unfold exPut at h
  split at h
  next v k r =>
    split at h
    next c0 f hm => exact il_up (cond_some h).2 (fun L g q => by rw [hm] at q; cases q)
    next => cases h
  next => cases h
theorem il_exSt {pc : Nat} {ls : ALs} {st : List AV} {mm : AMem} {o : ROut} (h : exSt pc ls st mm = some o) : IL mm o := by
  unfold exSt at h
  split at h
  next x i k r =>
    split at h
    next kd n f hm =>
      have h1 := cond_some h
      have h0 := Nat.eq_of_beq_eq_true h1.1
      exact il_up (ite_some h1.2).2 (fun L g q => by rw [hm, h0] at q; cases q)
    next => cases h
  next => cases h
theorem il_exStZ {pc : Nat} {ls : ALs} {st : List AV} {mm : AMem} {o : ROut} (h : exStZ pc ls st mm = some o) : IL mm o := by
  unfold exStZ at h
  split at h
  next x i k r =>
    split at h
    next kd n f hm =>
      have h1 := cond_some h
      have h0 := Nat.eq_of_beq_eq_true h1.1
      exact il_up (ite_some h1.2).2 (fun L g q => by rw [hm, h0] at q; cases q)
    next => cases h
  next => cases h
theorem il_exStA {M pc : Nat} {ls : ALs} {st : List AV} {mm : AMem} {o : ROut} (h : exStA M pc ls st mm = some o) : IL mm o := by
  unfold exStA at h
  split at h
  next v i k r =>
    split at h
    next kd n f c0 g0 hm hv => exact il_up (ite_some (cond_some h).2).2 (fun L g q => by rw [hm] at q; cases q)
    next => cases h
  next => cases h
theorem il_exCpy {pc : Nat} {ls : ALs} {st : List AV} {mm : AMem} {o : ROut} (h : exCpy pc ls st mm = some o) : IL mm o := by
  unfold exCpy at h
  split at h
  next n dp k1 sp k0 r =>
    split at h
    next d0 n0 f d1 n1 g hm0 hm1 =>
      have h1 := cond_some h
      have h2 := h1.1
      simp only [Bool.and_eq_true] at h2
      have h0 := Nat.eq_of_beq_eq_true h2.1.2
      exact il_up (ite_some h1.2).2 (fun L g q => by rw [hm1, h0] at q; cases q)
    next => cases h
  next => cases h
theorem il_exNew {a pc : Nat} {ls : ALs} {st : List AV} {mm : AMem} {o : ROut} (h : exNew a pc ls st mm = some o) : IL mm o := by
  unfold exNew at h
  have h1 := cond_some h
  have h2 := h1.1
  simp only [Bool.and_eq_true] at h2
  exact il_nw h1.2 h2.1
theorem il_exNewI {a pc : Nat} {ls : ALs} {st : List AV} {mm : AMem} {o : ROut} (h : exNewI a pc ls st mm = some o) : IL mm o := by
  unfold exNewI at h
  split at h
  next => exact il_nw (ite_some (cond_some h).2).2 (cond_some h).1
  next => cases h
theorem il_exNewA {a pc : Nat} {ls : ALs} {st : List AV} {mm : AMem} {o : ROut} (h : exNewA a pc ls st mm = some o) : IL mm o := by
  unfold exNewA at h
  split at h
  next => exact il_nw (ite_some (cond_some h).2).2 (cond_some h).1
  next => cases h
set_option maxHeartbeats 4000000 in
theorem ex_inv {M pc : Nat} {ls : ALs} {st : List AV} {mm : AMem} {q : INS} {o : ROut} (h : ex M pc ls st mm q = some o) : IL mm o ∨
    (∃ kind i, ((kind = 0 ∧ q.1 = .invokestatic i ∧ Nat.beq q.2.2.1 9999 = false ∧ Nat.beq q.2.2.1 9997 = false ∧ Nat.beq q.2.2.1 9996 = false) ∨ (kind = 1 ∧ q.1 = .invokevirtual i) ∨ (kind = 2 ∧ q.1 = .invokespecial i ∧ Nat.beq q.2.2.1 9998 = false)) ∧ exCall kind M q.2.2.1 pc st mm = some o) ∨
    (q.1 = .ireturn ∧ ∃ x, st = [.inl x] ∧ o = .inr (.inl (some (vi x))) ∧ (Nat.beq q.2.2.1 0 = true ∨ (x = 0 ∨ x = 1))) ∨ (q.1 = .lreturn ∧ ∃ x, st = [.inr (.inl x)] ∧ o = .inr (.inl (some (vl x)))) ∨ (q.1 = .return_ ∧ st = [] ∧ o = .inr (.inl none)) := by
  obtain ⟨ins, len, a, b, z⟩ := q
  cases ins with
  | iconst n => exact Or.inl (il_nx h)
  | bipush n => exact Or.inl (il_nx h)
  | sipush n => exact Or.inl (il_nx h)
  | lconst n => exact Or.inl (il_nx h)
  | ldc n => exact Or.inl (il_nx h)
  | ldc_w n => exact Or.inl (il_nx h)
  | ldc2_w n => exact Or.inl (il_nx h)
  | iload i => exact Or.inl (il_ldI h)
  | iload_n i => exact Or.inl (il_ldI h)
  | lload i => exact Or.inl (il_ldL h)
  | lload_n i => exact Or.inl (il_ldL h)
  | aload i => exact Or.inl (il_ldA h)
  | aload_n i => exact Or.inl (il_ldA h)
  | istore i => exact Or.inl (il_stI h)
  | istore_n i => exact Or.inl (il_stI h)
  | lstore i => exact Or.inl (il_stL h)
  | lstore_n i => exact Or.inl (il_stL h)
  | astore i => exact Or.inl (il_stA h)
  | astore_n i => exact Or.inl (il_stA h)
  | iadd => exact Or.inl (il_bnI h)
  | isub => exact Or.inl (il_bnI h)
  | imul => exact Or.inl (il_bnI h)
  | iand => exact Or.inl (il_bnI h)
  | ior => exact Or.inl (il_bnI h)
  | ixor => exact Or.inl (il_bnI h)
  | ishl => exact Or.inl (il_bnI h)
  | ishr => exact Or.inl (il_bnI h)
  | iushr => exact Or.inl (il_bnI h)
  | idiv => exact Or.inl (il_bnD h)
  | irem => exact Or.inl (il_bnD h)
  | ladd => exact Or.inl (il_bnL h)
  | lmul => exact Or.inl (il_bnL h)
  | ldiv => exact Or.inl (il_bnM h)
  | lrem => exact Or.inl (il_bnM h)
  | goto i => exact Or.inl (il_nx h)
  | getfield i => exact Or.inl (il_exGet h)
  | putfield i => exact Or.inl (il_exPut h)
  | iaload => exact Or.inl (il_exLd h)
  | iastore => exact Or.inl (il_exSt h)
  | baload => exact Or.inl (il_exLdZ h)
  | bastore => exact Or.inl (il_exStZ h)
  | aaload => exact Or.inl (il_exLdA h)
  | aastore => exact Or.inl (il_exStA h)
  | arraylength => exact Or.inl (il_exLen h)
  | new i => exact Or.inl (il_exNew h)
  | anewarray i => exact Or.inl (il_exNewA h)
  | if_icmp cd off => cases cd <;> exact Or.inl (il_br2 h)
  | ifCond cd off => cases cd <;> exact Or.inl (il_br1 h)
  | newarray at0 =>
    cases at0 with
    | int => exact Or.inl (il_exNewI h)
    | boolean => exact Or.inl (il_exNewI h)
    | _ => simp [ex] at h
  | invokestatic i =>
    have h : (bif Nat.beq a 9999 then exCpy pc ls st mm else bif Nat.beq a 9997 then exMx true pc ls st mm else bif Nat.beq a 9996 then exMx false pc ls st mm else exCall 0 M a pc st mm) = some o := h
    cases e1 : Nat.beq a 9999 with
    | true => rw [e1] at h; exact Or.inl (il_exCpy h)
    | false =>
      rw [e1] at h
      cases e2 : Nat.beq a 9997 with
      | true => rw [e2] at h; exact Or.inl (il_exMx h)
      | false =>
        rw [e2] at h
        cases e3 : Nat.beq a 9996 with
        | true => rw [e3] at h; exact Or.inl (il_exMx h)
        | false => rw [e3] at h; exact Or.inr (Or.inl ⟨0, i, Or.inl ⟨rfl, rfl, (by first | rfl | assumption), (by first | rfl | assumption), (by first | rfl | assumption)⟩, h⟩)
  | invokevirtual i => exact Or.inr (Or.inl ⟨1, i, Or.inr (Or.inl ⟨rfl, rfl⟩), h⟩)
  | invokespecial i =>
    have h : (bif Nat.beq a 9998 then exObj pc ls st mm else exCall 2 M a pc st mm) = some o := h
    cases e1 : Nat.beq a 9998 with
    | true => rw [e1] at h; exact Or.inl (il_exObj h)
    | false => rw [e1] at h; exact Or.inr (Or.inl ⟨2, i, Or.inr (Or.inr ⟨rfl, rfl, (by first | rfl | assumption)⟩), h⟩)
  | ireturn =>
    simp only [ex] at h
    split at h
    next x =>
      cases e1 : Nat.beq a 0 with
      | true => rw [e1] at h; cases h; exact Or.inr (Or.inr (Or.inl ⟨rfl, x, rfl, rfl, Or.inl (by first | rfl | assumption)⟩))
      | false =>
        rw [e1] at h
        dsimp only [cond] at h
        split at h
        next hx => cases h; exact Or.inr (Or.inr (Or.inl ⟨rfl, x, rfl, rfl, Or.inr hx⟩))
        next => cases h
    next => cases h
  | lreturn =>
    simp only [ex] at h
    split at h
    next x => cases h; exact Or.inr (Or.inr (Or.inr (Or.inl ⟨rfl, x, rfl, rfl⟩)))
    next => cases h
  | return_ =>
    simp only [ex] at h
    split at h
    next => cases h; exact Or.inr (Or.inr (Or.inr (Or.inr ⟨rfl, rfl, rfl⟩)))
    next => cases h
  | iinc i n =>
    simp only [ex] at h
    (repeat' split at h)
    all_goals first | (cases h; done) | exact Or.inl (il_nx h)
  | ineg | lcmp | i2l | l2i | i2b | dup | dup2 | pop | tableswitch | lookupswitch =>
    simp only [ex] at h
    (repeat' split at h)
    all_goals first | (cases h; done) | exact Or.inl (il_nx h)
  | _ => simp [ex] at h
