/-! STEPS THAT TOUCH THE HEAP -/
theorem vw_at : ∀ {a : Nat}, a < 5 → vwCl[a]? = some (clR a, clT a, clK a)
  | 0, _ => rfl
  | 1, _ => rfl
  | 2, _ => rfl
  | 3, _ => rfl
  | 4, _ => rfl
  | _ + 5, h => absurd h (by omega)
theorem uwB : ((List.range 5).all fun a => (u_ws (clR a) (clT a) (clK a)).all fun w => goodWord w) = true := by decide +kernel
theorem uw_0 : ∀ w ∈ u_ws (clR 0) (clT 0) (clK 0), w ∈ lw_tbl := by decide +kernel
theorem uw_1 : ∀ w ∈ u_ws (clR 1) (clT 1) (clK 1), w ∈ lw_tbl := by decide +kernel
theorem uw_2 : ∀ w ∈ u_ws (clR 2) (clT 2) (clK 2), w ∈ lw_tbl := by decide +kernel
theorem uw_3 : ∀ w ∈ u_ws (clR 3) (clT 3) (clK 3), w ∈ lw_tbl := by decide +kernel
theorem uw_4 : ∀ w ∈ u_ws (clR 4) (clT 4) (clK 4), w ∈ lw_tbl := by decide +kernel
theorem uw_in {a : Nat} (h : a < 5) : ∀ w ∈ u_ws (clR a) (clT a) (clK a), w ∈ gw := by
  intro w hw
  have h1 := List.all_eq_true.mp uwB a (List.mem_range.mpr h)
  have h2 := List.all_eq_true.mp h1 w hw
  refine List.mem_filter.mpr ⟨?_, h2⟩
  match a, h, hw with
  | 0, _, hw => exact uw_0 w hw
  | 1, _, hw => exact uw_1 w hw
  | 2, _, hw => exact uw_2 w hw
  | 3, _, hw => exact uw_3 w hw
  | 4, _, hw => exact uw_4 w hw
theorem cl_ty : ∀ {a : Nat}, a < 5 → ∀ k, k < clK a → parseFieldDescriptor (clT a k).2.2.1 = some (clTy a k)
  | 0, _ => tyX0_ok
  | 1, _ => tyX3_ok
  | 2, _ => tyX4_ok
  | 3, _ => tyX5_ok
  | 4, _ => tyX6_ok
  | _ + 5, h => absurd h (by omega)
theorem cl_nm : ∀ {x : Nat}, x < 5 → ∀ a, a < clK x → ∀ b, b < clK x → a ≠ b → (clT x a).2.1 ≠ (clT x b).2.1
  | 0, _ => nmX0
  | 1, _ => nmX3
  | 2, _ => nmX4
  | 3, _ => nmX5
  | 4, _ => nmX6
  | _ + 5, h => absurd h (by omega)
def tyB (t : FieldType) : Bool := match t with
  | .int => true
  | .long => true
  | .object _ => true
  | .array _ => true
  | _ => false
theorem tyBB : ((List.range 5).all fun a => (List.range (clK a)).all fun b => tyB (clTy a b)) = true := by decide +kernel
theorem fit_ok {a b : Nat} {v : AV} {ad : AK → Nat} (ha : a < 5) (hb : b < clK a) (h : fitF (clF a b) v = true) : narrow (clTy a b) (cv ad v) = cv ad v ∧ fits (clTy a b) (cv ad v) = true := by
  have h1 := List.all_eq_true.mp tyBB a (List.mem_range.mpr ha)
  have h2 := List.all_eq_true.mp h1 b (List.mem_range.mpr hb)
  unfold clF at h
  generalize clTy a b = t at h h2
  rcases v with x | x | (_ | x) <;> cases t <;> first | exact ⟨rfl, rfl⟩ | (simp [fitF, tyB] at h h2; done)
theorem fs_set {c b : Nat} {f : Nat → AV} {v : AV} {ad : AK → Nat} : ((List.range (clK c)).map (fun k => cv ad (f k))).set b (cv ad v) = (List.range (clK c)).map (fun k => cv ad (upF f b v k)) := by
  apply List.ext_getElem?
  intro i
  rw [List.getElem?_set]
  by_cases hi : i < clK c
  · by_cases hib : b = i
    · subst hib
      simp [hi, upF]
    · have : i ≠ b := fun q => hib q.symm
      simp [hi, hib, upF, this]
  · simp [hi]
    omega
theorem okM_upd {mm : AMem} {j : Nat} {k : AK} {e : AE} (h : okM mm) (hj : j < mm.2.1) (hk : nm j = k) (he : okE mm.2.1 e) : okM (upM mm.1 k e, mm.2) := by
  refine ⟨h.1, fun i hi => ?_⟩
  show okE mm.2.1 (upM mm.1 k e (nm i))
  unfold upM
  split
  · exact he
  · exact h.2 i hi
theorem i32_upF {f : Nat → Int} {k : Nat} {x : Int} (h : ∀ j, i32 (f j)) (hx : i32 x) : ∀ j, i32 (upF f k x j) := by
  intro j
  unfold upF
  split
  · exact hx
  · exact h j
theorem upd_upF (f : Nat → Int) (k : Nat) (x : Int) : upd (fun j => Int32.ofInt (f j)) k (Int32.ofInt x) = fun j => Int32.ofInt (upF f k x j) := by
  funext j
  unfold upd upF
  split <;> rfl
theorem cat_le (ad : AK → Nat) : ∀ (r : List AV), ((r.map (cv ad)).map fun v => v.category).sum ≤ 2 * r.length
  | [] => by simp
  | v :: r => by
    have := cat_le ad r
    have h2 : (cv ad v).category ≤ 2 := by rcases v with x | x | (_ | x) <;> simp [cv, Value.category]
    simp only [List.map_cons, List.sum_cons, List.length_cons]
    omega
section HP
variable {p : Program} {l : Launch} {e : Env} {R : Room} {s : State} {m : MethodId} {args : Array Value} {below : List Frame} {meth : Method} {c : Code} {Q : State → Prop} {D : va_G} {dA : Nat → ClassId} {A : Nat → Prop} {sg : Bool} {nL N0 S0 M : Nat} {ad : AK → Nat} {pc : Nat} {ls : ALs} {st : List AV} {mm : AMem} {nxt : Nat × ALs × List AV × AMem}
theorem Rl.key {H : Heap} {locs : List Loc} {lsc : Array Slot} {cells slots : Nat} {k : AK} (h : Rl s D dA A sg nL N0 S0 ad H locs lsc cells slots ls st mm) (hk : okv mm.2.1 sg (.inr (.inr (some k)))) (hn : ∀ L f, mm.1 k ≠ .inl (4, L, f)) : ∃ j, j < mm.2.1 ∧ nm j = k := by
  rcases hk with h1 | ⟨h1, h2⟩
  · exact h1
  · obtain ⟨b, L, xs, -, -, -, -, -, h3⟩ := h.2.2.2.2.2.2.2.2.2 h1
    rw [h2] at hn
    exact absurd h3 (hn _ _)
theorem Rl.cell {H : Heap} {locs : List Loc} {lsc : Array Slot} {cells slots : Nat} (h : Rl s D dA A sg nL N0 S0 ad H locs lsc cells slots ls st mm) {j : Nat} {k : AK} {e0 : AE} (hj : j < mm.2.1) (hk : nm j = k) (he : mm.1 k = e0) : okE mm.2.1 e0 := by
  have := h.2.2.2.1.2 j hj
  rwa [hk, he] at this
/-- a cell of the memory is another one -/
theorem Rl.put {H H1 : Heap} {locs locs1 : List Loc} {lsc : Array Slot} {cells slots : Nat} {j : Nat} {k : AK} {e1 : AE} {st' : List AV} (h : Rl s D dA A sg nL N0 S0 ad H locs lsc cells slots ls st mm) (hj : j < mm.2.1) (hk : nm j = k) (he : okE mm.2.1 e1) (hs : ∀ v ∈ st', okv mm.2.1 sg v)
    (hP : va_P D vwCl ((wl dA ad mm).set j (ad k, ce dA ad e1)) H1) (hD : va_D A ((wl dA ad mm).set j (ad k, ce dA ad e1))) (hS : va_S A s.heap H1 locs1) : Rl s D dA A sg nL N0 S0 ad H1 locs1 lsc cells slots ls st' (upM mm.1 k e1, mm.2) := by
  rw [wl_set e1 h.2.2.2.1.1 hj hk] at hP hD
  refine ⟨hP, hD, hS, okM_upd h.2.2.2.1 hj hk he, h.2.2.2.2.1, h.2.2.2.2.2.1, hs, h.2.2.2.2.2.2.2.1, h.2.2.2.2.2.2.2.2.1, fun hsg => ?_⟩
  obtain ⟨b, L, xs, h1, h2, h3, h4, h5, h6⟩ := h.2.2.2.2.2.2.2.2.2 hsg
  refine ⟨b, L, xs, h1, h2, h3, h4, h5, ?_⟩
  show upM mm.1 k e1 (99, 0) = _
  have hne : (99, 0) ≠ k := fun q => nm_99 (Nat.lt_of_lt_of_le hj h.2.2.2.1.1) (hk.trans q.symm)
  simp [upM, hne, h6]
theorem sn_get (C : Cx p s m args meth c D dA A M) {i a b pl : Nat} (hd : decode (minf M).2.1 pc = .ok (.getfield i, 3)) (ha : a < 5) (hb : b < clK a) (hw : eqW pl (.fieldLink (minf M).1.cls i (clT a b).1 (clT a b).2.1 (clT a b).2.2.1) = true)
    (h : exGet a b pc ls st mm = some (.inl nxt)) (k : WG p l e R s m args below meth c Q D dA A sg nL N0 S0 ad nxt) : WG p l e R s m args below meth c Q D dA A sg nL N0 S0 ad (pc, ls, st, mm) := by
  unfold exGet at h
  split at h
  next k0 r =>
    split at h
    next c0 f hm =>
      cases hbq : Nat.beq c0 a with
      | false => rw [hbq] at h; cases h
      | true =>
        have hca := Nat.eq_of_beq_eq_true hbq
        subst hca
        rw [hbq] at h
        cases nx_inj h
        intro H locs lsc cells slots hr
        obtain ⟨j, hj, hjk⟩ := hr.key (ok_hd hr.oks) (fun L g q => by rw [hm] at q; cases q)
        have hE := hr.cell hj hjk hm
        have hget : (wl dA ad mm)[j]? = some (ad k0, .inr (c0, (List.range (clK c0)).map (fun k => cv ad (f k)))) := wl_get2 hj hjk hm
        refine va_get (v := cv ad (f b)) C.1 C.2.1 C.2.2.2.2.1 (uw_in ha) C.2.2.2.1 C.2.2.2.2.2.1 hr.1 j hget (vw_at ha) b hb (w_at C.2.2.2.2.1 hw rfl) (fun _ h9 => h9) (by simp [hb]) hd ?_
        exact k H locs lsc cells slots (hr.stk (ok_push (okv_true (hE.2 b)) (ok_tl hr.oks)))
    next => cases h
  next => cases h
theorem sn_put (C : Cx p s m args meth c D dA A M) {i a b pl : Nat} (hd : decode (minf M).2.1 pc = .ok (.putfield i, 3)) (ha : a < 5) (hb : b < clK a) (hw : eqW pl (.fieldLink (minf M).1.cls i (clT a b).1 (clT a b).2.1 (clT a b).2.2.1) = true)
    (hfin : (clT a b).2.2.2 = false ∨ ((clT a b).2.2.2 = true ∧ (minf M).1.name = "<init>" ∧ (clT a b).1 = (minf M).1.cls)) (hsg : 1 ≤ M → sg = false)
    (h : exPut M a b pc ls st mm = some (.inl nxt)) (k : WG p l e R s m args below meth c Q D dA A sg nL N0 S0 ad nxt) : WG p l e R s m args below meth c Q D dA A sg nL N0 S0 ad (pc, ls, st, mm) := by
  unfold exPut at h
  split at h
  next v k0 r =>
    split at h
    next c0 f hm =>
      cases hbq : (Nat.beq c0 a && fitF (clF a b) v && Nat.ble 1 M) with
      | false => rw [hbq] at h; cases h
      | true =>
        rw [hbq] at h
        simp only [Bool.and_eq_true] at hbq
        obtain ⟨⟨q1, q2⟩, q3⟩ := hbq
        have hca := Nat.eq_of_beq_eq_true q1
        subst hca
        have hs0 := hsg (Nat.le_of_ble_eq_true q3)
        subst hs0
        cases nx_inj h
        intro H locs lsc cells slots hr
        obtain ⟨j, hj, hjk⟩ := hr.key (ok_hd (ok_tl hr.oks)) (fun L g q => by rw [hm] at q; cases q)
        have hE := hr.cell hj hjk hm
        have hget : (wl dA ad mm)[j]? = some (ad k0, .inr (c0, (List.range (clK c0)).map (fun k => cv ad (f k)))) := wl_get2 hj hjk hm
        obtain ⟨f1, f2⟩ := fit_ok (ad := ad) ha hb q2
        have hE2 : okE mm.2.1 (.inr (.inr (c0, upF f b v))) := by
          refine ⟨hE.1, fun b' => ?_⟩
          unfold upF
          split
          · exact ok_hd hr.oks
          · exact hE.2 b'
        have fin : ∀ (H1 : Heap) (locs1 : List Loc), va_P D vwCl ((wl dA ad mm).set j (ad k0, .inr (c0, ((List.range (clK c0)).map (fun k => cv ad (f k))).set b (cv ad v)))) H1 → va_D A ((wl dA ad mm).set j (ad k0, .inr (c0, ((List.range (clK c0)).map (fun k => cv ad (f k))).set b (cv ad v)))) → va_S A s.heap H1 locs1 → W p l e R s m args below meth c H1 locs1 cells slots Q (F0 m (pc + 3) lsc (r.map (cv ad))) := by
          intro H1 locs1 hP1 hD1 hS1
          rw [fs_set] at hP1 hD1
          exact k H1 locs1 lsc cells slots (hr.put (e1 := .inr (.inr (c0, upF f b v))) hj hjk hE2 (ok_tl (ok_tl hr.oks)) hP1 hD1 hS1)
        rcases hfin with hfin | ⟨g1, g2, g3⟩
        · exact va_put C.1 C.2.1 C.2.2.2.2.1 (uw_in ha) (clTy c0) (cl_ty ha) (cl_nm ha) C.2.2.2.1 C.2.2.2.2.2.1 hr.1 hr.2.1 hr.2.2.1 j hget (vw_at ha) b hb (w_at C.2.2.2.2.1 hw rfl) (fun _ h9 => h9) hfin (cl_ty ha b hb) f1 f2 (by simp [hb]) hd fin
        · exact va_putF C.1 C.2.1 C.2.2.2.2.1 (uw_in ha) (clTy c0) (cl_ty ha) (cl_nm ha) C.2.2.2.1 C.2.2.2.2.2.1 hr.1 hr.2.1 hr.2.2.1 j hget (vw_at ha) b hb (w_at C.2.2.2.2.1 hw rfl) (fun _ h9 => h9) g1 (C.2.2.2.2.2.2.2.1.trans g2) g3 (cl_ty ha b hb) f1 f2 (by simp [hb]) hd fin
    next => cases h
  next => cases h
theorem sn_iald (C : Cx p s m args meth c D dA A M) (hd : decode (minf M).2.1 pc = .ok (.iaload, 1)) (h : exLd pc ls st mm = some (.inl nxt)) (k : WG p l e R s m args below meth c Q D dA A sg nL N0 S0 ad nxt) : WG p l e R s m args below meth c Q D dA A sg nL N0 S0 ad (pc, ls, st, mm) := by
  unfold exLd at h
  split at h
  next i k0 r =>
    split at h
    next kd n f hm =>
      cases hbq : (Nat.beq kd 0 || Nat.beq kd 4) with
      | false => rw [hbq] at h; cases h
      | true =>
        rw [hbq] at h
        dsimp only [cond] at h
        split at h
        next hi =>
          cases nx_inj h
          intro H locs lsc cells slots hr
          have hii : i32 i := ok_hd hr.oks
          by_cases h4 : kd = 4
          · subst h4
            rcases ok_hd (ok_tl hr.oks) with ⟨j, hj, hjk⟩ | ⟨h1, h2⟩
            · have hE := hr.cell hj hjk hm
              exact absurd hE.1 (by decide)
            · obtain ⟨b, L, xs, g1, g2, g3, g4, g5, g6⟩ := hr.2.2.2.2.2.2.2.2.2 h1
              rw [h2, g6] at hm
              cases hm
              have e1 : cv ad (.inr (.inr (some k0))) = .ref b := by rw [h2]; show Value.ref _ = _; rw [g4]
              show W p l e R s m args below meth c H locs cells slots Q (F0 m pc lsc (.int (Int32.ofInt i) :: cv ad (.inr (.inr (some k0))) :: r.map (cv ad)))
              rw [e1]
              refine va_sld C.1 C.2.1 g1 g2 g3 hr.2.2.1 (o_vp hii hi.1 hi.2) hd ?_
              rw [tN hii]
              have e2 : Value.int (xs i.toNat) = cv ad (vi (xs i.toNat).toInt) := by show _ = Value.int (Int32.ofInt _); rw [Int32.ofInt_toInt]
              rw [e2]
              exact k H locs lsc cells slots (hr.stk (ok_push (show i32 _ from i32_of _) (ok_tl (ok_tl hr.oks))))
          · have h0 : kd = 0 := by
              simp only [Bool.or_eq_true] at hbq
              rcases hbq with q | q
              · exact Nat.eq_of_beq_eq_true q
              · exact absurd (Nat.eq_of_beq_eq_true q) h4
            subst h0
            obtain ⟨j, hj, hjk⟩ := hr.key (ok_hd (ok_tl hr.oks)) (fun L g q => by rw [hm] at q; cases q)
            have hE := hr.cell hj hjk hm
            have hget : (wl dA ad mm)[j]? = some (ad k0, .inl (dA 0, n, .inl (fun j => Int32.ofInt (f j)))) := wl_get2 hj hjk hm
            refine va_iald C.1 C.2.1 C.2.2.2.2.2.1 hr.1 j 0 hget rfl (o_vp hii hi.1 hi.2) hd ?_
            rw [tN hii]
            exact k H locs lsc cells slots (hr.stk (ok_push (show i32 _ from hE.2.2 _) (ok_tl (ok_tl hr.oks))))
        next => cases h
    next => cases h
  next => cases h
theorem sn_iast (C : Cx p s m args meth c D dA A M) (hd : decode (minf M).2.1 pc = .ok (.iastore, 1)) (h : exSt pc ls st mm = some (.inl nxt)) (k : WG p l e R s m args below meth c Q D dA A sg nL N0 S0 ad nxt) : WG p l e R s m args below meth c Q D dA A sg nL N0 S0 ad (pc, ls, st, mm) := by
  unfold exSt at h
  split at h
  next x i k0 r =>
    split at h
    next kd n f hm =>
      cases hbq : Nat.beq kd 0 with
      | false => rw [hbq] at h; cases h
      | true =>
        rw [hbq] at h
        have h0 := Nat.eq_of_beq_eq_true hbq
        subst h0
        dsimp only [cond] at h
        split at h
        next hi =>
          cases nx_inj h
          intro H locs lsc cells slots hr
          have hx : i32 x := ok_hd hr.oks
          have hii : i32 i := ok_hd (ok_tl hr.oks)
          obtain ⟨j, hj, hjk⟩ := hr.key (ok_hd (ok_tl (ok_tl hr.oks))) (fun L g q => by rw [hm] at q; cases q)
          have hE := hr.cell hj hjk hm
          have hget : (wl dA ad mm)[j]? = some (ad k0, .inl (dA 0, n, .inl (fun j => Int32.ofInt (f j)))) := wl_get2 hj hjk hm
          refine va_iast C.1 C.2.1 C.2.2.2.2.2.1 hr.1 hr.2.1 hr.2.2.1 j 0 hget rfl (o_vp hii hi.1 hi.2) hd (fun H1 locs1 hP1 hD1 hS1 => ?_)
          rw [tN hii, upd_upF] at hP1 hD1
          exact k H1 locs1 lsc cells slots (hr.put (e1 := .inl (0, n, upF f i.toNat x)) hj hjk ⟨hE.1, hE.2.1, i32_upF hE.2.2 hx⟩ (ok_tl (ok_tl (ok_tl hr.oks))) hP1 hD1 hS1)
        next => cases h
    next => cases h
  next => cases h
theorem sn_zald (C : Cx p s m args meth c D dA A M) (hd : decode (minf M).2.1 pc = .ok (.baload, 1)) (h : exLdZ pc ls st mm = some (.inl nxt)) (k : WG p l e R s m args below meth c Q D dA A sg nL N0 S0 ad nxt) : WG p l e R s m args below meth c Q D dA A sg nL N0 S0 ad (pc, ls, st, mm) := by
  unfold exLdZ at h
  split at h
  next i k0 r =>
    split at h
    next kd n f hm =>
      cases hbq : Nat.beq kd 1 with
      | false => rw [hbq] at h; cases h
      | true =>
        rw [hbq] at h
        have h0 := Nat.eq_of_beq_eq_true hbq
        subst h0
        dsimp only [cond] at h
        split at h
        next hi =>
          cases nx_inj h
          intro H locs lsc cells slots hr
          have hii : i32 i := ok_hd hr.oks
          obtain ⟨j, hj, hjk⟩ := hr.key (ok_hd (ok_tl hr.oks)) (fun L g q => by rw [hm] at q; cases q)
          have hE := hr.cell hj hjk hm
          have hget : (wl dA ad mm)[j]? = some (ad k0, .inl (dA 1, n, .inl (fun j => Int32.ofInt (f j)))) := wl_get2 hj hjk hm
          refine va_zald C.1 C.2.1 C.2.2.2.2.2.1 hr.1 j 1 hget rfl (o_vp hii hi.1 hi.2) hd ?_
          rw [tN hii]
          exact k H locs lsc cells slots (hr.stk (ok_push (show i32 _ from hE.2.2 _) (ok_tl (ok_tl hr.oks))))
        next => cases h
    next => cases h
  next => cases h
theorem nar_bool {x : Int} (h : x = 0 ∨ x = 1) : vp_nar .boolean (Int32.ofInt x) = Int32.ofInt x := by
  rcases h with rfl | rfl <;> decide
theorem sn_zast (C : Cx p s m args meth c D dA A M) (hd : decode (minf M).2.1 pc = .ok (.bastore, 1)) (h : exStZ pc ls st mm = some (.inl nxt)) (k : WG p l e R s m args below meth c Q D dA A sg nL N0 S0 ad nxt) : WG p l e R s m args below meth c Q D dA A sg nL N0 S0 ad (pc, ls, st, mm) := by
  unfold exStZ at h
  split at h
  next x i k0 r =>
    split at h
    next kd n f hm =>
      cases hbq : Nat.beq kd 1 with
      | false => rw [hbq] at h; cases h
      | true =>
        rw [hbq] at h
        have h0 := Nat.eq_of_beq_eq_true hbq
        subst h0
        dsimp only [cond] at h
        split at h
        next hi =>
          cases nx_inj h
          intro H locs lsc cells slots hr
          have hx : i32 x := ok_hd hr.oks
          have hii : i32 i := ok_hd (ok_tl hr.oks)
          obtain ⟨j, hj, hjk⟩ := hr.key (ok_hd (ok_tl (ok_tl hr.oks))) (fun L g q => by rw [hm] at q; cases q)
          have hE := hr.cell hj hjk hm
          have hget : (wl dA ad mm)[j]? = some (ad k0, .inl (dA 1, n, .inl (fun j => Int32.ofInt (f j)))) := wl_get2 hj hjk hm
          refine va_zast C.1 C.2.1 C.2.2.2.2.2.1 hr.1 hr.2.1 hr.2.2.1 j 1 hget rfl (o_vp hii hi.2.1 hi.2.2) hd (fun H1 locs1 hP1 hD1 hS1 => ?_)
          rw [tN hii, nar_bool hi.1, upd_upF] at hP1 hD1
          exact k H1 locs1 lsc cells slots (hr.put (e1 := .inl (1, n, upF f i.toNat x)) hj hjk ⟨hE.1, hE.2.1, i32_upF hE.2.2 hx⟩ (ok_tl (ok_tl (ok_tl hr.oks))) hP1 hD1 hS1)
        next => cases h
    next => cases h
  next => cases h
theorem sn_aald (C : Cx p s m args meth c D dA A M) (hd : decode (minf M).2.1 pc = .ok (.aaload, 1)) (h : exLdA pc ls st mm = some (.inl nxt)) (k : WG p l e R s m args below meth c Q D dA A sg nL N0 S0 ad nxt) : WG p l e R s m args below meth c Q D dA A sg nL N0 S0 ad (pc, ls, st, mm) := by
  unfold exLdA at h
  split at h
  next i k0 r =>
    split at h
    next kd n f hm =>
      split at h
      next hi =>
        split at h
        next q hq =>
          cases nx_inj h
          intro H locs lsc cells slots hr
          have hii : i32 i := ok_hd hr.oks
          obtain ⟨j, hj, hjk⟩ := hr.key (ok_hd (ok_tl hr.oks)) (fun L g q => by rw [hm] at q; cases q)
          have hE := hr.cell hj hjk hm
          have hget : (wl dA ad mm)[j]? = some (ad k0, .inl (dA kd, n, .inr (.inr (.inr (.inr (fun j => (f j).map ad)))))) := wl_get2 hj hjk hm
          have hty : ∃ C0 : String, (tyA dA)[kd]? = some (dA kd, .object C0) := by
            rcases hE.1 with q | q <;> subst q <;> exact ⟨_, rfl⟩
          obtain ⟨C0, hty⟩ := hty
          refine va_aldq C.1 C.2.1 C.2.2.2.2.2.1 hr.1 j kd hget hty (o_vp hii hi.1 hi.2) hd ?_
          rw [tN hii, hq]
          exact k H locs lsc cells slots (hr.stk (ok_push (Or.inl (hE.2.2 _ q hq)) (ok_tl (ok_tl hr.oks))))
        next => cases h
      next => cases h
    next => cases h
  next => cases h
theorem upO_eq (f : Nat → Option AK) (ad : AK → Nat) (i : Nat) (v : AK) : va_up (fun j => (f j).map ad) i (some (ad v)) = fun j => (upF f i (some v) j).map ad := by
  funext j
  unfold va_up upF
  split <;> rfl
theorem sn_aast (C : Cx p s m args meth c D dA A M) (hd : decode (minf M).2.1 pc = .ok (.aastore, 1)) (hsg : 1 ≤ M → sg = false) (h : exStA M pc ls st mm = some (.inl nxt)) (k : WG p l e R s m args below meth c Q D dA A sg nL N0 S0 ad nxt) : WG p l e R s m args below meth c Q D dA A sg nL N0 S0 ad (pc, ls, st, mm) := by
  unfold exStA at h
  split at h
  next v i k0 r =>
    split at h
    next kd n f c0 g0 hm hv =>
      cases hbq : (((Nat.beq kd 2 && Nat.beq c0 0) || (Nat.beq kd 3 && Nat.beq c0 1)) && Nat.ble 1 M) with
      | false => rw [hbq] at h; cases h
      | true =>
        rw [hbq] at h
        simp only [Bool.and_eq_true, Bool.or_eq_true] at hbq
        obtain ⟨q1, q3⟩ := hbq
        have hs0 := hsg (Nat.le_of_ble_eq_true q3)
        subst hs0
        dsimp only [cond] at h
        split at h
        next hi =>
          cases nx_inj h
          intro H locs lsc cells slots hr
          have hii : i32 i := ok_hd (ok_tl hr.oks)
          obtain ⟨j, hj, hjk⟩ := hr.key (ok_hd (ok_tl (ok_tl hr.oks))) (fun L g q => by rw [hm] at q; cases q)
          obtain ⟨j2, hj2, hjk2⟩ := hr.key (ok_hd hr.oks) (fun L g q => by rw [hv] at q; cases q)
          have hE := hr.cell hj hjk hm
          have hget : (wl dA ad mm)[j]? = some (ad k0, .inl (dA kd, n, .inr (.inr (.inr (.inr (fun j => (f j).map ad)))))) := wl_get2 hj hjk hm
          have hget2 : (wl dA ad mm)[j2]? = some (ad v, .inr (c0, (List.range (clK c0)).map (fun k => cv ad (g0 k)))) := wl_get2 hj2 hjk2 hv
          have hty : ∃ r0 : vw_C, vwCl[c0]? = some r0 ∧ (tyA dA)[kd]? = some (dA kd, .object r0.1) := by
            rcases q1 with ⟨a1, a2⟩ | ⟨a1, a2⟩
            · rw [Nat.eq_of_beq_eq_true a1, Nat.eq_of_beq_eq_true a2]; exact ⟨_, rfl, rfl⟩
            · rw [Nat.eq_of_beq_eq_true a1, Nat.eq_of_beq_eq_true a2]; exact ⟨_, rfl, rfl⟩
          obtain ⟨r0, t1, t2⟩ := hty
          refine va_astq C.1 C.2.1 C.2.2.2.2.2.1 hr.1 hr.2.1 hr.2.2.1 j kd j2 c0 hget t2 hget2 t1 (o_vp hii hi.1 hi.2) hd (fun H1 locs1 hP1 hD1 hS1 => ?_)
          rw [tN hii, upO_eq] at hP1 hD1
          refine k H1 locs1 lsc cells slots (hr.put (e1 := .inr (.inl (kd, n, upF f i.toNat (some v)))) hj hjk ⟨hE.1, hE.2.1, fun y q hq => ?_⟩ (ok_tl (ok_tl (ok_tl hr.oks))) hP1 hD1 hS1)
          unfold upF at hq
          split at hq
          · cases hq; exact ⟨j2, hj2, hjk2⟩
          · exact hE.2.2 y q hq
        next => cases h
    next => cases h
  next => cases h
theorem len_eq {n : Nat} (h : n < 2147483648) : Int32.ofNat n = Int32.ofInt (n : Int) := oI (nI_toInt (by omega))
theorem sn_alen (C : Cx p s m args meth c D dA A M) (hd : decode (minf M).2.1 pc = .ok (.arraylength, 1)) (h : exLen pc ls st mm = some (.inl nxt)) (k : WG p l e R s m args below meth c Q D dA A sg nL N0 S0 ad nxt) : WG p l e R s m args below meth c Q D dA A sg nL N0 S0 ad (pc, ls, st, mm) := by
  unfold exLen at h
  split at h
  next k0 r =>
    split at h
    next kd n f hm =>
      cases nx_inj h
      intro H locs lsc cells slots hr
      rcases ok_hd hr.oks with ⟨j, hj, hjk⟩ | ⟨h1, h2⟩
      · have hE := hr.cell hj hjk hm
        have hget : (wl dA ad mm)[j]? = some (ad k0, .inl (dA kd, n, .inl (fun j => Int32.ofInt (f j)))) := wl_get2 hj hjk hm
        have hty : ∃ ty : FieldType, (tyA dA)[kd]? = some (dA kd, ty) := by
          have h2 := hE.1
          match kd, h2 with
          | 0, _ => exact ⟨_, rfl⟩
          | 1, _ => exact ⟨_, rfl⟩
        obtain ⟨ty, hty⟩ := hty
        refine va_alen (v := Int32.ofInt (n : Int)) C.1 C.2.1 C.2.2.2.2.2.1 hr.1 j kd hget hty (len_eq hE.2.1) hd ?_
        exact k H locs lsc cells slots (hr.stk (ok_push (show i32 _ from ⟨by omega, by have := hE.2.1; omega⟩) (ok_tl hr.oks)))
      · obtain ⟨b, L, xs, g1, g2, g3, g4, g5, g6⟩ := hr.2.2.2.2.2.2.2.2.2 h1
        rw [h2, g6] at hm
        cases hm
        have e1 : cv ad (.inr (.inr (some k0))) = .ref b := by rw [h2]; show Value.ref _ = _; rw [g4]
        show W p l e R s m args below meth c H locs cells slots Q (F0 m pc lsc (cv ad (.inr (.inr (some k0))) :: r.map (cv ad)))
        rw [e1]
        refine va_slen C.1 C.2.1 g1 g2 g3 hr.2.2.1 hd ?_
        rw [len_eq g5]
        exact k H locs lsc cells slots (hr.stk (ok_push (show i32 _ from ⟨by omega, by omega⟩) (ok_tl hr.oks)))
    next kd n f hm =>
      cases nx_inj h
      intro H locs lsc cells slots hr
      obtain ⟨j, hj, hjk⟩ := hr.key (ok_hd hr.oks) (fun L g q => by rw [hm] at q; cases q)
      have hE := hr.cell hj hjk hm
      have hget : (wl dA ad mm)[j]? = some (ad k0, .inl (dA kd, n, .inr (.inr (.inr (.inr (fun j => (f j).map ad)))))) := wl_get2 hj hjk hm
      have hty : ∃ ty : FieldType, (tyA dA)[kd]? = some (dA kd, ty) := by
        rcases hE.1 with q | q <;> subst q <;> exact ⟨_, rfl⟩
      obtain ⟨ty, hty⟩ := hty
      refine va_alen (v := Int32.ofInt (n : Int)) C.1 C.2.1 C.2.2.2.2.2.1 hr.1 j kd hget hty (len_eq hE.2.1) hd ?_
      exact k H locs lsc cells slots (hr.stk (ok_push (show i32 _ from ⟨by omega, by have := hE.2.1; omega⟩) (ok_tl hr.oks)))
    next => cases h
  next => cases h
end HP
