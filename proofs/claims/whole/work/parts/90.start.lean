/-! THE START: what the constructors leave -/
theorem upM_s {m : AM} {k : AK} {e : AE} : upM m k e k = e := if_pos rfl
theorem upM_n {m : AM} {k q : AK} {e : AE} (h : q ≠ k) : upM m k e q = m q := if_neg h
theorem upM_2 {m : AM} {k : AK} {e e' : AE} : upM (upM m k e) k e' = upM m k e' := by
  funext q
  show (if q = k then e' else if q = k then e else m q) = if q = k then e' else m q
  by_cases h : q = k
  · rw [if_pos h, if_pos h]
  · rw [if_neg h, if_neg h, if_neg h]
theorem upM_id {m : AM} {k : AK} {e : AE} (h : m k = e) : upM m k e = m := by
  funext q
  show (if q = k then e else m q) = m q
  by_cases z : q = k
  · rw [if_pos z, z, h]
  · rw [if_neg z]
theorem ne_t {t t' i i' : Nat} (h : t ≠ t') : ((t, i) : AK) ≠ (t', i') := fun z => h (congrArg Prod.fst z)
section NW
variable {d M pc : Nat} {ls : ALs} {st : List AV} {m : AM} {c s : Nat} {Q : Option AV → AMem → Prop} {t i : Nat}
theorem xn_new {a k b : Nat} {w : Int} (hf : fetch M pc = some (.new k, 3, a, b, w)) (hc : Nat.ble (c + 1) NTOT = true) (ha : Nat.ble a 4 = true) (hn : nm c = (t, i)) : X d M pc ls st (m, c, s) Q ↔ X d M (pc + 3) ls (vr t i :: st) (upM m (t, i) (.inr (.inr (a, dfv a))), c + 1, s + clK a) Q := by
  have he : ex M pc ls st (m, c, s) (.new k, 3, a, b, w) = some (.inl (pc + 3, ls, vr t i :: st, upM m (t, i) (.inr (.inr (a, dfv a))), c + 1, s + clK a)) := by
    show exNew a pc ls st (m, c, s) = _
    unfold exNew
    simp only [hn, hc, ha, Bool.and_self, cond_true]
    rfl
  exact x_one hf he
theorem xn_arr {n : Nat} {z : Nat × Nat × Int} (hf : fetch M pc = some (.newarray .int, 2, z)) (hc : Nat.ble (c + 1) NTOT = true) (hn : nm c = (t, i)) (h1 : n ≤ 100000) : X d M pc ls (vi (n : Int) :: st) (m, c, s) Q ↔ X d M (pc + 2) ls (vr t i :: st) (upM m (t, i) (.inl (0, n, fun _ => 0)), c + 1, s + n) Q := by
  have he : ex M pc ls (vi (n : Int) :: st) (m, c, s) (.newarray .int, 2, z) = some (.inl (pc + 2, ls, vr t i :: st, upM m (t, i) (.inl (0, n, fun _ => 0)), c + 1, s + n)) := by
    show exNewI 0 pc ls (vi (n : Int) :: st) (m, c, s) = _
    have h2 : 0 ≤ (n : Int) ∧ (n : Int) ≤ 100000 := by omega
    simp only [exNewI, vi, hn, hc, cond_true, h2, and_self, if_true, Int.toNat_natCast]
    rfl
  exact x_one hf he
theorem xn_arrZ {n : Nat} {z : Nat × Nat × Int} (hf : fetch M pc = some (.newarray .boolean, 2, z)) (hc : Nat.ble (c + 1) NTOT = true) (hn : nm c = (t, i)) (h1 : n ≤ 100000) : X d M pc ls (vi (n : Int) :: st) (m, c, s) Q ↔ X d M (pc + 2) ls (vr t i :: st) (upM m (t, i) (.inl (1, n, fun _ => 0)), c + 1, s + n) Q := by
  have he : ex M pc ls (vi (n : Int) :: st) (m, c, s) (.newarray .boolean, 2, z) = some (.inl (pc + 2, ls, vr t i :: st, upM m (t, i) (.inl (1, n, fun _ => 0)), c + 1, s + n)) := by
    show exNewI 1 pc ls (vi (n : Int) :: st) (m, c, s) = _
    have h2 : 0 ≤ (n : Int) ∧ (n : Int) ≤ 100000 := by omega
    simp only [exNewI, vi, hn, hc, cond_true, h2, and_self, if_true, Int.toNat_natCast]
    rfl
  exact x_one hf he
theorem xn_arrI {n : Nat} {z : Nat × Nat × Int} (hf : fetch M pc = some (.newarray .int, 2, z)) (hc : Nat.ble (c + 1) NTOT = true) (hn : nm c = (t, i)) (h1 : n ≤ 100000) (hm : m (t, i) = .inl (0, n, fun _ => 0)) : X d M pc ls (vi (n : Int) :: st) (m, c, s) Q ↔ X d M (pc + 2) ls (vr t i :: st) (m, c + 1, s + n) Q := by
  rw [xn_arr hf hc hn h1, upM_id hm]
theorem xn_arrY {n : Nat} {z : Nat × Nat × Int} (hf : fetch M pc = some (.newarray .boolean, 2, z)) (hc : Nat.ble (c + 1) NTOT = true) (hn : nm c = (t, i)) (h1 : n ≤ 100000) (hm : m (t, i) = .inl (1, n, fun _ => 0)) : X d M pc ls (vi (n : Int) :: st) (m, c, s) Q ↔ X d M (pc + 2) ls (vr t i :: st) (m, c + 1, s + n) Q := by
  rw [xn_arrZ hf hc hn h1, upM_id hm]
theorem xn_arrA {n kd k b : Nat} {w : Int} (hf : fetch M pc = some (.anewarray k, 3, kd, b, w)) (hc : Nat.ble (c + 1) NTOT = true) (hn : nm c = (t, i)) (h1 : n ≤ 100000) : X d M pc ls (vi (n : Int) :: st) (m, c, s) Q ↔ X d M (pc + 3) ls (vr t i :: st) (upM m (t, i) (.inr (.inl (kd, n, fun _ => none))), c + 1, s + n) Q := by
  have he : ex M pc ls (vi (n : Int) :: st) (m, c, s) (.anewarray k, 3, kd, b, w) = some (.inl (pc + 3, ls, vr t i :: st, upM m (t, i) (.inr (.inl (kd, n, fun _ => none))), c + 1, s + n)) := by
    show exNewA kd pc ls (vi (n : Int) :: st) (m, c, s) = _
    have h2 : 0 ≤ (n : Int) ∧ (n : Int) ≤ 100000 := by omega
    simp only [exNewA, vi, hn, hc, cond_true, h2, and_self, if_true, Int.toNat_natCast]
    rfl
  exact x_one hf he
theorem xn_put {cl b k : Nat} {w : Int} {v : AV} {f : Nat → AV} (hf : fetch M pc = some (.putfield k, 3, cl, b, w)) (hm : m (t, i) = .inr (.inr (cl, f))) (hv : fitF (clF cl b) v = true) (hM : Nat.ble 1 M = true) : X d M pc ls (v :: vr t i :: st) (m, c, s) Q ↔ X d M (pc + 3) ls st (upM m (t, i) (.inr (.inr (cl, upF f b v))), c, s) Q := by
  have he : ex M pc ls (v :: vr t i :: st) (m, c, s) (.putfield k, 3, cl, b, w) = some (.inl (pc + 3, ls, st, upM m (t, i) (.inr (.inr (cl, upF f b v))), c, s)) := by
    show exPut M cl b pc ls (v :: vr t i :: st) (m, c, s) = _
    have e4 : Nat.beq cl cl = true := Nat.beq_refl cl
    simp only [exPut, vr, hm, hv, hM, e4, Bool.and_self]
    rfl
  exact x_one hf he
theorem xn_putO {cl b k : Nat} {w : Int} {v : AV} {f : Nat → AV} (hf : fetch M pc = some (.putfield k, 3, cl, b, w)) (hv : fitF (clF cl b) v = true) (hM : Nat.ble 1 M = true) : X d M pc ls (v :: vr t i :: st) (upM m (t, i) (.inr (.inr (cl, f))), c, s) Q ↔ X d M (pc + 3) ls st (upM m (t, i) (.inr (.inr (cl, upF f b v))), c, s) Q := by
  rw [xn_put hf upM_s hv hM, upM_2]
theorem xn_get {cl b k : Nat} {w : Int} {v : AV} {f : Nat → AV} (hf : fetch M pc = some (.getfield k, 3, cl, b, w)) (hm : m (t, i) = .inr (.inr (cl, f))) (hv : f b = v) : X d M pc ls (vr t i :: st) (m, c, s) Q ↔ X d M (pc + 3) ls (v :: st) (m, c, s) Q := by
  subst hv
  have he : ex M pc ls (vr t i :: st) (m, c, s) (.getfield k, 3, cl, b, w) = some (.inl (pc + 3, ls, f b :: st, m, c, s)) := by
    show exGet cl b pc ls (vr t i :: st) (m, c, s) = _
    have e4 : Nat.beq cl cl = true := Nat.beq_refl cl
    simp only [exGet, vr, hm, e4]
    rfl
  exact x_one hf he
theorem xn_aast {kd n cl p t2 i2 : Nat} {z : Nat × Nat × Int} {f : Nat → Option AK} {g : Nat → AV} (hf : fetch M pc = some (.aastore, 1, z)) (hm : m (t, i) = .inr (.inl (kd, n, f))) (h2 : m (t2, i2) = .inr (.inr (cl, g))) (hk : ((Nat.beq kd 2 && Nat.beq cl 0) || (Nat.beq kd 3 && Nat.beq cl 1)) = true) (hM : Nat.ble 1 M = true) (hp : p < n) : X d M pc ls (vr t2 i2 :: vi (p : Int) :: vr t i :: st) (m, c, s) Q ↔ X d M (pc + 1) ls st (upM m (t, i) (.inr (.inl (kd, n, upF f p (some (t2, i2))))), c, s) Q := by
  have he : ex M pc ls (vr t2 i2 :: vi (p : Int) :: vr t i :: st) (m, c, s) (.aastore, 1, z) = some (.inl (pc + 1, ls, st, upM m (t, i) (.inr (.inl (kd, n, upF f p (some (t2, i2))))), c, s)) := by
    show exStA M pc ls (vr t2 i2 :: vi (p : Int) :: vr t i :: st) (m, c, s) = _
    have hp2 : 0 ≤ (p : Int) ∧ (p : Int) < (n : Int) := by omega
    simp only [exStA, vr, vi, hm, h2, hk, hM, Bool.and_self, cond_true, hp2, and_self, if_true, Int.toNat_natCast]
    rfl
  exact x_one hf he
theorem xn_iast {n p : Nat} {v : Int} {z : Nat × Nat × Int} {f : Nat → Int} (hf : fetch M pc = some (.iastore, 1, z)) (hm : m (t, i) = .inl (0, n, f)) (hp : p < n) : X d M pc ls (vi v :: vi (p : Int) :: vr t i :: st) (m, c, s) Q ↔ X d M (pc + 1) ls st (upM m (t, i) (.inl (0, n, upF f p v)), c, s) Q := by
  have he : ex M pc ls (vi v :: vi (p : Int) :: vr t i :: st) (m, c, s) (.iastore, 1, z) = some (.inl (pc + 1, ls, st, upM m (t, i) (.inl (0, n, upF f p v)), c, s)) := by
    show exSt pc ls (vi v :: vi (p : Int) :: vr t i :: st) (m, c, s) = _
    have hp2 : 0 ≤ (p : Int) ∧ (p : Int) < (n : Int) := by omega
    have e4 : Nat.beq 0 0 = true := rfl
    simp only [exSt, vr, vi, hm, e4, cond_true, hp2, and_self, if_true, Int.toNat_natCast]
    rfl
  exact x_one hf he
end NW

def fF_obj (i : Nat) : Nat → AV := (upF (upF (upF (upF (upF (upF (upF (upF (upF (upF (dfv 0) 0 (vr 21 i)) 1 (vr 22 i)) 2 (vr 23 i)) 3 (vr 24 i)) 4 (vr 25 i)) 5 (vr 26 i)) 6 (vr 27 i)) 7 (vi 0)) 8 (vi 0)) 9 (vi 0))
theorem s_F_init {d c s : Nat} {i : Nat} {m : AM} {Q : Option AV → AMem → Prop} (h0 : m (20, i) = .inr (.inr (0, (fF_obj i)))) (h21 : m (21, i) = .inl (0, 6, fun _ => 0)) (h22 : m (22, i) = .inl (0, 6, fun _ => 0)) (h23 : m (23, i) = .inl (0, 6, fun _ => 0)) (h24 : m (24, i) = .inl (0, 40, fun _ => 0)) (h25 : m (25, i) = .inl (0, 40, fun _ => 0)) (h26 : m (26, i) = .inl (0, 40, fun _ => 0)) (h27 : m (27, i) = .inl (0, 40, fun _ => 0)) (hA : ∀ j, j < 7 → nm (c + j) = (21 + j, i) ∧ True) (hc : ∀ j, j < 7 → Nat.ble (c + j + 1) NTOT = true) : X d m_F_init 0 [some (vr 20 i)] [] (upM m (20, i) (.inr (.inr (0, dfv 0))), c, s) Q ↔ Q none (m, c + 7, s + 6 + 6 + 6 + 40 + 40 + 40 + 40) := by
  refine Iff.trans (x_run (pc' := 7) (ls' := [some (vr 20 i)]) (st' := [vi 6, vr 20 i]) (mm' := (upM m (20, i) (.inr (.inr (0, (dfv 0)))), c, s)) 4 rfl) ?_
  refine Iff.trans (xn_arrI (n := 6) (t := 21) (i := i) rfl (hc 0 (by decide)) (hA 0 (by decide)).1 (by decide) ((upM_n (ne_t (by decide))).trans h21)) ?_
  refine Iff.trans (xn_putO rfl rfl rfl) ?_
  refine Iff.trans (x_run (pc' := 15) (ls' := [some (vr 20 i)]) (st' := [vi 6, vr 20 i]) (mm' := (upM m (20, i) (.inr (.inr (0, (upF (dfv 0) 0 (vr 21 i))))), c + 1, s + 6)) 2 rfl) ?_
  refine Iff.trans (xn_arrI (n := 6) (t := 22) (i := i) rfl (hc 1 (by decide)) (hA 1 (by decide)).1 (by decide) ((upM_n (ne_t (by decide))).trans h22)) ?_
  refine Iff.trans (xn_putO rfl rfl rfl) ?_
  refine Iff.trans (x_run (pc' := 23) (ls' := [some (vr 20 i)]) (st' := [vi 6, vr 20 i]) (mm' := (upM m (20, i) (.inr (.inr (0, (upF (upF (dfv 0) 0 (vr 21 i)) 1 (vr 22 i))))), c + 2, s + 6 + 6)) 2 rfl) ?_
  refine Iff.trans (xn_arrI (n := 6) (t := 23) (i := i) rfl (hc 2 (by decide)) (hA 2 (by decide)).1 (by decide) ((upM_n (ne_t (by decide))).trans h23)) ?_
  refine Iff.trans (xn_putO rfl rfl rfl) ?_
  refine Iff.trans (x_run (pc' := 31) (ls' := [some (vr 20 i)]) (st' := [vi 40, vr 20 i]) (mm' := (upM m (20, i) (.inr (.inr (0, (upF (upF (upF (dfv 0) 0 (vr 21 i)) 1 (vr 22 i)) 2 (vr 23 i))))), c + 3, s + 6 + 6 + 6)) 2 rfl) ?_
  refine Iff.trans (xn_arrI (n := 40) (t := 24) (i := i) rfl (hc 3 (by decide)) (hA 3 (by decide)).1 (by decide) ((upM_n (ne_t (by decide))).trans h24)) ?_
  refine Iff.trans (xn_putO rfl rfl rfl) ?_
  refine Iff.trans (x_run (pc' := 39) (ls' := [some (vr 20 i)]) (st' := [vi 40, vr 20 i]) (mm' := (upM m (20, i) (.inr (.inr (0, (upF (upF (upF (upF (dfv 0) 0 (vr 21 i)) 1 (vr 22 i)) 2 (vr 23 i)) 3 (vr 24 i))))), c + 4, s + 6 + 6 + 6 + 40)) 2 rfl) ?_
  refine Iff.trans (xn_arrI (n := 40) (t := 25) (i := i) rfl (hc 4 (by decide)) (hA 4 (by decide)).1 (by decide) ((upM_n (ne_t (by decide))).trans h25)) ?_
  refine Iff.trans (xn_putO rfl rfl rfl) ?_
  refine Iff.trans (x_run (pc' := 47) (ls' := [some (vr 20 i)]) (st' := [vi 40, vr 20 i]) (mm' := (upM m (20, i) (.inr (.inr (0, (upF (upF (upF (upF (upF (dfv 0) 0 (vr 21 i)) 1 (vr 22 i)) 2 (vr 23 i)) 3 (vr 24 i)) 4 (vr 25 i))))), c + 5, s + 6 + 6 + 6 + 40 + 40)) 2 rfl) ?_
  refine Iff.trans (xn_arrI (n := 40) (t := 26) (i := i) rfl (hc 5 (by decide)) (hA 5 (by decide)).1 (by decide) ((upM_n (ne_t (by decide))).trans h26)) ?_
  refine Iff.trans (xn_putO rfl rfl rfl) ?_
  refine Iff.trans (x_run (pc' := 55) (ls' := [some (vr 20 i)]) (st' := [vi 40, vr 20 i]) (mm' := (upM m (20, i) (.inr (.inr (0, (upF (upF (upF (upF (upF (upF (dfv 0) 0 (vr 21 i)) 1 (vr 22 i)) 2 (vr 23 i)) 3 (vr 24 i)) 4 (vr 25 i)) 5 (vr 26 i))))), c + 6, s + 6 + 6 + 6 + 40 + 40 + 40)) 2 rfl) ?_
  refine Iff.trans (xn_arrI (n := 40) (t := 27) (i := i) rfl (hc 6 (by decide)) (hA 6 (by decide)).1 (by decide) ((upM_n (ne_t (by decide))).trans h27)) ?_
  refine Iff.trans (xn_putO rfl rfl rfl) ?_
  refine Iff.trans (x_run (pc' := 62) (ls' := [some (vr 20 i)]) (st' := [vi 0, vr 20 i]) (mm' := (upM m (20, i) (.inr (.inr (0, (upF (upF (upF (upF (upF (upF (upF (dfv 0) 0 (vr 21 i)) 1 (vr 22 i)) 2 (vr 23 i)) 3 (vr 24 i)) 4 (vr 25 i)) 5 (vr 26 i)) 6 (vr 27 i))))), c + 7, s + 6 + 6 + 6 + 40 + 40 + 40 + 40)) 2 rfl) ?_
  refine Iff.trans (xn_putO rfl rfl rfl) ?_
  refine Iff.trans (x_run (pc' := 67) (ls' := [some (vr 20 i)]) (st' := [vi 0, vr 20 i]) (mm' := (upM m (20, i) (.inr (.inr (0, (upF (upF (upF (upF (upF (upF (upF (upF (dfv 0) 0 (vr 21 i)) 1 (vr 22 i)) 2 (vr 23 i)) 3 (vr 24 i)) 4 (vr 25 i)) 5 (vr 26 i)) 6 (vr 27 i)) 7 (vi 0))))), c + 7, s + 6 + 6 + 6 + 40 + 40 + 40 + 40)) 2 rfl) ?_
  refine Iff.trans (xn_putO rfl rfl rfl) ?_
  refine Iff.trans (x_run (pc' := 72) (ls' := [some (vr 20 i)]) (st' := [vi 0, vr 20 i]) (mm' := (upM m (20, i) (.inr (.inr (0, (upF (upF (upF (upF (upF (upF (upF (upF (upF (dfv 0) 0 (vr 21 i)) 1 (vr 22 i)) 2 (vr 23 i)) 3 (vr 24 i)) 4 (vr 25 i)) 5 (vr 26 i)) 6 (vr 27 i)) 7 (vi 0)) 8 (vi 0))))), c + 7, s + 6 + 6 + 6 + 40 + 40 + 40 + 40)) 2 rfl) ?_
  refine Iff.trans (xn_putO rfl rfl rfl) ?_
  refine Iff.trans (x_ret rfl rfl) ?_
  rw [show upM m (20, i) (.inr (.inr (0, (upF (upF (upF (upF (upF (upF (upF (upF (upF (upF (dfv 0) 0 (vr 21 i)) 1 (vr 22 i)) 2 (vr 23 i)) 3 (vr 24 i)) 4 (vr 25 i)) 5 (vr 26 i)) 6 (vr 27 i)) 7 (vi 0)) 8 (vi 0)) 9 (vi 0))))) = m from upM_id h0]
def fS_obj : Nat → AV := (upF (upF (upF (upF (upF (upF (dfv 2) 0 (vr 31 0)) 1 (vr 32 0)) 2 (vi 0)) 3 (vi 0)) 4 (vi 0)) 5 (vi (-1)))
theorem s_S_init {d c s : Nat} {m : AM} {Q : Option AV → AMem → Prop} (h0 : m (30, 0) = .inr (.inr (2, fS_obj))) (h31 : m (31, 0) = .inl (0, 4, fun _ => 0)) (h32 : m (32, 0) = .inl (0, 3, fun _ => 0)) (hA : ∀ j, j < 2 → nm (c + j) = (31 + j, 0) ∧ True) (hc : ∀ j, j < 2 → Nat.ble (c + j + 1) NTOT = true) : X d m_S_init 0 [some (vr 30 0)] [] (upM m (30, 0) (.inr (.inr (2, dfv 2))), c, s) Q ↔ Q none (m, c + 2, s + 4 + 3) := by
  refine Iff.trans (x_run (pc' := 6) (ls' := [some (vr 30 0)]) (st' := [vi 4, vr 30 0]) (mm' := (upM m (30, 0) (.inr (.inr (2, (dfv 2)))), c, s)) 4 rfl) ?_
  refine Iff.trans (xn_arrI (n := 4) (t := 31) (i := 0) rfl (hc 0 (by decide)) (hA 0 (by decide)).1 (by decide) ((upM_n (ne_t (by decide))).trans h31)) ?_
  refine Iff.trans (xn_putO rfl rfl rfl) ?_
  refine Iff.trans (x_run (pc' := 13) (ls' := [some (vr 30 0)]) (st' := [vi 3, vr 30 0]) (mm' := (upM m (30, 0) (.inr (.inr (2, (upF (dfv 2) 0 (vr 31 0))))), c + 1, s + 4)) 2 rfl) ?_
  refine Iff.trans (xn_arrI (n := 3) (t := 32) (i := 0) rfl (hc 1 (by decide)) (hA 1 (by decide)).1 (by decide) ((upM_n (ne_t (by decide))).trans h32)) ?_
  refine Iff.trans (xn_putO rfl rfl rfl) ?_
  refine Iff.trans (x_run (pc' := 20) (ls' := [some (vr 30 0)]) (st' := [vi 0, vr 30 0]) (mm' := (upM m (30, 0) (.inr (.inr (2, (upF (upF (dfv 2) 0 (vr 31 0)) 1 (vr 32 0))))), c + 2, s + 4 + 3)) 2 rfl) ?_
  refine Iff.trans (xn_putO rfl rfl rfl) ?_
  refine Iff.trans (x_run (pc' := 25) (ls' := [some (vr 30 0)]) (st' := [vi 0, vr 30 0]) (mm' := (upM m (30, 0) (.inr (.inr (2, (upF (upF (upF (dfv 2) 0 (vr 31 0)) 1 (vr 32 0)) 2 (vi 0))))), c + 2, s + 4 + 3)) 2 rfl) ?_
  refine Iff.trans (xn_putO rfl rfl rfl) ?_
  refine Iff.trans (x_run (pc' := 30) (ls' := [some (vr 30 0)]) (st' := [vi 0, vr 30 0]) (mm' := (upM m (30, 0) (.inr (.inr (2, (upF (upF (upF (upF (dfv 2) 0 (vr 31 0)) 1 (vr 32 0)) 2 (vi 0)) 3 (vi 0))))), c + 2, s + 4 + 3)) 2 rfl) ?_
  refine Iff.trans (xn_putO rfl rfl rfl) ?_
  refine Iff.trans (x_run (pc' := 35) (ls' := [some (vr 30 0)]) (st' := [vi (-1), vr 30 0]) (mm' := (upM m (30, 0) (.inr (.inr (2, (upF (upF (upF (upF (upF (dfv 2) 0 (vr 31 0)) 1 (vr 32 0)) 2 (vi 0)) 3 (vi 0)) 4 (vi 0))))), c + 2, s + 4 + 3)) 2 rfl) ?_
  refine Iff.trans (xn_putO rfl rfl rfl) ?_
  refine Iff.trans (x_ret rfl rfl) ?_
  rw [show upM m (30, 0) (.inr (.inr (2, (upF (upF (upF (upF (upF (upF (dfv 2) 0 (vr 31 0)) 1 (vr 32 0)) 2 (vi 0)) 3 (vi 0)) 4 (vi 0)) 5 (vi (-1)))))) = m from upM_id h0]
theorem mxn (n : Nat) : (if (0 : Int) < (n : Int) then (n : Int) else 0) = (n : Int) := by split <;> omega
def fR_obj (i : Nat) : Nat → AV := upF (upF (dfv 1) 1 (vi (-1))) 0 (vr 29 i)
theorem s_R_init {d c s n : Nat} {i : Nat} {m : AM} {Q : Option AV → AMem → Prop} (h0 : m (28, i) = .inr (.inr (1, fR_obj i))) (h29 : m (29, i) = .inl (0, n, fun _ => 0)) (hA : nm c = (29, i)) (hc : Nat.ble (c + 1) NTOT = true) (h1 : n ≤ 100000) : X d m_R_init 0 [some (vr 28 i), some (vi (n : Int))] [] (upM m (28, i) (.inr (.inr (1, dfv 1))), c, s) Q ↔ Q none (m, c + 1, s + n) := by
  refine Iff.trans (x_run (pc' := 6) (ls' := [some (vr 28 i), some (vi (n : Int))]) (st' := [vi (-1), vr 28 i]) (mm' := (upM m (28, i) (.inr (.inr (1, dfv 1))), c, s)) 4 rfl) ?_
  refine Iff.trans (xn_putO rfl rfl rfl) ?_
  refine Iff.trans (x_run (pc' := 15) (ls' := [some (vr 28 i), some (vi (n : Int))]) (st' := [vi (if (0 : Int) < (n : Int) then (n : Int) else 0), vr 28 i]) (mm' := (upM m (28, i) (.inr (.inr (1, upF (dfv 1) 1 (vi (-1))))), c, s)) 4 rfl) ?_
  rw [mxn]
  refine Iff.trans (xn_arrI (t := 29) (i := i) rfl hc hA h1 ((upM_n (ne_t (by decide))).trans h29)) ?_
  refine Iff.trans (xn_putO rfl rfl rfl) ?_
  refine Iff.trans (x_ret rfl rfl) ?_
  rw [show upM m (28, i) (.inr (.inr (1, upF (upF (dfv 1) 1 (vi (-1))) 0 (vr 29 i)))) = m from upM_id h0]
def ov4 (Z : AM) (e0 e1 e2 e4 : AE) : AM := upM (upM (upM (upM Z (4, 0) e4) (2, 0) e2) (1, 0) e1) (0, 0) e0
theorem ov4_0 {Z : AM} {e0 e1 e2 e4 e : AE} : upM (ov4 Z e0 e1 e2 e4) (0, 0) e = ov4 Z e e1 e2 e4 := upM_2
theorem ov4_1 {Z : AM} {e0 e1 e2 e4 e : AE} : upM (ov4 Z e0 e1 e2 e4) (1, 0) e = ov4 Z e0 e e2 e4 := by
  funext q
  by_cases h : q = (1, 0)
  · rw [h]; rfl
  · simp only [ov4, upM, if_neg h]
theorem ov4_2 {Z : AM} {e0 e1 e2 e4 e : AE} : upM (ov4 Z e0 e1 e2 e4) (2, 0) e = ov4 Z e0 e1 e e4 := by
  funext q
  by_cases h : q = (2, 0)
  · rw [h]; rfl
  · simp only [ov4, upM, if_neg h]
theorem ov4_4 {Z : AM} {e0 e1 e2 e4 e : AE} : upM (ov4 Z e0 e1 e2 e4) (4, 0) e = ov4 Z e0 e1 e2 e := by
  funext q
  by_cases h : q = (4, 0)
  · rw [h]; rfl
  · simp only [ov4, upM, if_neg h]
def ov3 (Z : AM) (e0 e1 e2 : AE) : AM := upM (upM (upM Z (42, 0) e2) (40, 0) e1) (39, 0) e0
theorem ov3_0 {Z : AM} {e0 e1 e2 e : AE} : upM (ov3 Z e0 e1 e2) (39, 0) e = ov3 Z e e1 e2 := upM_2
theorem ov3_1 {Z : AM} {e0 e1 e2 e : AE} : upM (ov3 Z e0 e1 e2) (40, 0) e = ov3 Z e0 e e2 := by
  funext q
  by_cases h : q = (40, 0)
  · rw [h]; rfl
  · simp only [ov3, upM, if_neg h]
theorem ov3_2 {Z : AM} {e0 e1 e2 e : AE} : upM (ov3 Z e0 e1 e2) (42, 0) e = ov3 Z e0 e1 e := by
  funext q
  by_cases h : q = (42, 0)
  · rw [h]; rfl
  · simp only [ov3, upM, if_neg h]
def arF (t o r : Nat) : Nat → Option AK := fun j => if j < r then some (t, o + j) else none
def ngF (r : Nat) : Nat → Int := fun p => if p < r then -1 else 0
theorem arF_0 {t o : Nat} : (fun _ => none) = arF t o 0 := by
  funext j
  exact (if_neg (Nat.not_lt_zero j)).symm
theorem arF_s {t o r : Nat} : upF (arF t o r) r (some (t, o + r)) = arF t o (r + 1) := by
  funext j
  show (if j = r then some (t, o + r) else if j < r then some (t, o + j) else none) = if j < r + 1 then some (t, o + j) else none
  by_cases h : j = r
  · rw [if_pos h, if_pos (by omega), h]
  · by_cases h2 : j < r
    · rw [if_neg h, if_pos h2, if_pos (by omega)]
    · rw [if_neg h, if_neg h2, if_neg (by omega)]
theorem ngF_0 : (fun _ => 0) = ngF 0 := by
  funext j
  exact (if_neg (Nat.not_lt_zero j)).symm
theorem ngF_s {r : Nat} : upF (ngF r) r (-1) = ngF (r + 1) := by
  funext j
  show (if j = r then -1 else if j < r then -1 else 0) = if j < r + 1 then -1 else 0
  by_cases h : j = r
  · rw [if_pos h, if_pos (by omega)]
  · by_cases h2 : j < r
    · rw [if_neg h, if_pos h2, if_pos (by omega)]
    · rw [if_neg h, if_neg h2, if_neg (by omega)]
def fC_obj : Nat → AV := (upF (upF (upF (upF (upF (upF (upF (upF (upF (upF (upF (upF (upF (dfv 3) 0 (vr 1 0)) 1 (vr 2 0)) 2 (vr 20 0)) 3 (vr 4 0)) 4 (vr 5 0)) 5 (vi 0)) 6 (vi 0)) 7 (vl 0)) 8 (vl 1)) 9 (vr 30 0)) 10 (vr 11 0)) 11 (vr 12 0)) 12 (vr 13 0))
theorem c_C_init {d s : Nat} {Z : AM} {Q : Option AV → AMem → Prop} (h20 : Z (20, 0) = .inr (.inr (0, fF_obj 0))) (h30 : Z (30, 0) = .inr (.inr (2, fS_obj))) (h21 : Z (21, 0) = .inl (0, 6, fun _ => 0)) (h22 : Z (22, 0) = .inl (0, 6, fun _ => 0)) (h23 : Z (23, 0) = .inl (0, 6, fun _ => 0)) (h24 : Z (24, 0) = .inl (0, 40, fun _ => 0)) (h25 : Z (25, 0) = .inl (0, 40, fun _ => 0)) (h26 : Z (26, 0) = .inl (0, 40, fun _ => 0)) (h27 : Z (27, 0) = .inl (0, 40, fun _ => 0)) (h31 : Z (31, 0) = .inl (0, 4, fun _ => 0)) (h32 : Z (32, 0) = .inl (0, 3, fun _ => 0)) (h5 : Z (5, 0) = .inl (0, 6, fun _ => 0)) (h11 : Z (11, 0) = .inl (0, 1000, fun _ => 0)) (h12 : Z (12, 0) = .inl (0, 28, fun _ => 0)) (h13 : Z (13, 0) = .inl (0, 64, fun _ => 0)) : X (d + 1) m_C_init 0 [some (vr 0 0), none] [] (ov4 Z (.inr (.inr (3, dfv 3))) (Z (1, 0)) (Z (2, 0)) (Z (4, 0)), 1, s) Q ↔ X (d + 1) m_C_init 106 [some (vr 0 0), some (vi 0)] [] (ov4 Z (.inr (.inr (3, fC_obj))) (.inr (.inl (3, 6, arF 28 0 0))) (.inr (.inl (3, 4, arF 28 6 0))) (.inr (.inl (2, 3, arF 20 1 0))), 19, s + 6 + 4 + 10 + 6 + 6 + 6 + 40 + 40 + 40 + 40 + 3 + 6 + 6 + 4 + 3 + 1000 + 28 + 64) Q := by
  refine Iff.trans (x_run (pc' := 7) (ls' := [some (vr 0 0), none]) (st' := [vi 6, vr 0 0]) (mm' := ((ov4 Z (.inr (.inr (3, (dfv 3)))) (Z (1, 0)) (Z (2, 0)) (Z (4, 0))), 1, s)) 4 rfl) ?_
  refine Iff.trans (xn_arrA (c := 1) (n := 6) (t := 1) (i := 0) rfl rfl rfl (by decide)) ?_
  rw [ov4_1, arF_0 (t := 28) (o := 0)]
  refine Iff.trans (xn_put (t := 0) (i := 0) (f := (dfv 3)) rfl rfl rfl rfl) ?_
  rw [ov4_0]
  refine Iff.trans (x_run (pc' := 15) (ls' := [some (vr 0 0), none]) (st' := [vi 4, vr 0 0]) (mm' := ((ov4 Z (.inr (.inr (3, (upF (dfv 3) 0 (vr 1 0))))) (.inr (.inl (3, 6, arF 28 0 0))) (Z (2, 0)) (Z (4, 0))), 2, s + 6)) 2 rfl) ?_
  refine Iff.trans (xn_arrA (c := 2) (n := 4) (t := 2) (i := 0) rfl rfl rfl (by decide)) ?_
  rw [ov4_2, arF_0 (t := 28) (o := 6)]
  refine Iff.trans (xn_put (t := 0) (i := 0) (f := (upF (dfv 3) 0 (vr 1 0))) rfl rfl rfl rfl) ?_
  rw [ov4_0]
  refine Iff.trans (x_run (pc' := 22) (ls' := [some (vr 0 0), none]) (st' := [vr 0 0]) (mm' := ((ov4 Z (.inr (.inr (3, (upF (upF (dfv 3) 0 (vr 1 0)) 1 (vr 2 0))))) (.inr (.inl (3, 6, arF 28 0 0))) (.inr (.inl (3, 4, arF 28 6 0))) (Z (4, 0))), 3, s + 6 + 4)) 1 rfl) ?_
  refine Iff.trans (xn_new (c := 3) (t := 20) (i := 0) rfl rfl rfl rfl) ?_
  refine Iff.trans (x_run (pc' := 26) (ls' := [some (vr 0 0), none]) (st' := [vr 20 0, vr 20 0, vr 0 0]) (mm' := (upM (ov4 Z (.inr (.inr (3, (upF (upF (dfv 3) 0 (vr 1 0)) 1 (vr 2 0))))) (.inr (.inl (3, 6, arF 28 0 0))) (.inr (.inl (3, 4, arF 28 6 0))) (Z (4, 0))) (20, 0) (.inr (.inr (0, dfv 0))), 4, s + 6 + 4 + 10)) 1 rfl) ?_
  refine Iff.trans (x_call (M' := m_F_init) (av := [vr 20 0]) (rest := [vr 20 0, vr 0 0]) (pc' := 29) rfl rfl) ?_
  refine Iff.trans (s_F_init (i := 0) (m := (ov4 Z (.inr (.inr (3, (upF (upF (dfv 3) 0 (vr 1 0)) 1 (vr 2 0))))) (.inr (.inl (3, 6, arF 28 0 0))) (.inr (.inl (3, 4, arF 28 6 0))) (Z (4, 0)))) h20 h21 h22 h23 h24 h25 h26 h27 (by decide) (by decide)) ?_
  rw [ap_n]
  refine Iff.trans (xn_put (t := 0) (i := 0) (f := (upF (upF (dfv 3) 0 (vr 1 0)) 1 (vr 2 0))) rfl rfl rfl rfl) ?_
  rw [ov4_0]
  refine Iff.trans (x_run (pc' := 34) (ls' := [some (vr 0 0), none]) (st' := [vi 3, vr 0 0]) (mm' := ((ov4 Z (.inr (.inr (3, (upF (upF (upF (dfv 3) 0 (vr 1 0)) 1 (vr 2 0)) 2 (vr 20 0))))) (.inr (.inl (3, 6, arF 28 0 0))) (.inr (.inl (3, 4, arF 28 6 0))) (Z (4, 0))), 11, s + 6 + 4 + 10 + 6 + 6 + 6 + 40 + 40 + 40 + 40)) 2 rfl) ?_
  refine Iff.trans (xn_arrA (c := 11) (n := 3) (t := 4) (i := 0) rfl rfl rfl (by decide)) ?_
  rw [ov4_4, arF_0 (t := 20) (o := 1)]
  refine Iff.trans (xn_put (t := 0) (i := 0) (f := (upF (upF (upF (dfv 3) 0 (vr 1 0)) 1 (vr 2 0)) 2 (vr 20 0))) rfl rfl rfl rfl) ?_
  rw [ov4_0]
  refine Iff.trans (x_run (pc' := 43) (ls' := [some (vr 0 0), none]) (st' := [vi 6, vr 0 0]) (mm' := ((ov4 Z (.inr (.inr (3, (upF (upF (upF (upF (dfv 3) 0 (vr 1 0)) 1 (vr 2 0)) 2 (vr 20 0)) 3 (vr 4 0))))) (.inr (.inl (3, 6, arF 28 0 0))) (.inr (.inl (3, 4, arF 28 6 0))) (.inr (.inl (2, 3, arF 20 1 0)))), 12, s + 6 + 4 + 10 + 6 + 6 + 6 + 40 + 40 + 40 + 40 + 3)) 2 rfl) ?_
  refine Iff.trans (xn_arrI (c := 12) (n := 6) (t := 5) (i := 0) rfl rfl rfl (by decide) h5) ?_
  refine Iff.trans (xn_put (t := 0) (i := 0) (f := (upF (upF (upF (upF (dfv 3) 0 (vr 1 0)) 1 (vr 2 0)) 2 (vr 20 0)) 3 (vr 4 0))) rfl rfl rfl rfl) ?_
  rw [ov4_0]
  refine Iff.trans (x_run (pc' := 50) (ls' := [some (vr 0 0), none]) (st' := [vi 0, vr 0 0]) (mm' := ((ov4 Z (.inr (.inr (3, (upF (upF (upF (upF (upF (dfv 3) 0 (vr 1 0)) 1 (vr 2 0)) 2 (vr 20 0)) 3 (vr 4 0)) 4 (vr 5 0))))) (.inr (.inl (3, 6, arF 28 0 0))) (.inr (.inl (3, 4, arF 28 6 0))) (.inr (.inl (2, 3, arF 20 1 0)))), 13, s + 6 + 4 + 10 + 6 + 6 + 6 + 40 + 40 + 40 + 40 + 3 + 6)) 2 rfl) ?_
  refine Iff.trans (xn_put (t := 0) (i := 0) (f := (upF (upF (upF (upF (upF (dfv 3) 0 (vr 1 0)) 1 (vr 2 0)) 2 (vr 20 0)) 3 (vr 4 0)) 4 (vr 5 0))) rfl rfl rfl rfl) ?_
  rw [ov4_0]
  refine Iff.trans (x_run (pc' := 55) (ls' := [some (vr 0 0), none]) (st' := [vi 0, vr 0 0]) (mm' := ((ov4 Z (.inr (.inr (3, (upF (upF (upF (upF (upF (upF (dfv 3) 0 (vr 1 0)) 1 (vr 2 0)) 2 (vr 20 0)) 3 (vr 4 0)) 4 (vr 5 0)) 5 (vi 0))))) (.inr (.inl (3, 6, arF 28 0 0))) (.inr (.inl (3, 4, arF 28 6 0))) (.inr (.inl (2, 3, arF 20 1 0)))), 13, s + 6 + 4 + 10 + 6 + 6 + 6 + 40 + 40 + 40 + 40 + 3 + 6)) 2 rfl) ?_
  refine Iff.trans (xn_put (t := 0) (i := 0) (f := (upF (upF (upF (upF (upF (upF (dfv 3) 0 (vr 1 0)) 1 (vr 2 0)) 2 (vr 20 0)) 3 (vr 4 0)) 4 (vr 5 0)) 5 (vi 0))) rfl rfl rfl rfl) ?_
  rw [ov4_0]
  refine Iff.trans (x_run (pc' := 60) (ls' := [some (vr 0 0), none]) (st' := [vl 0, vr 0 0]) (mm' := ((ov4 Z (.inr (.inr (3, (upF (upF (upF (upF (upF (upF (upF (dfv 3) 0 (vr 1 0)) 1 (vr 2 0)) 2 (vr 20 0)) 3 (vr 4 0)) 4 (vr 5 0)) 5 (vi 0)) 6 (vi 0))))) (.inr (.inl (3, 6, arF 28 0 0))) (.inr (.inl (3, 4, arF 28 6 0))) (.inr (.inl (2, 3, arF 20 1 0)))), 13, s + 6 + 4 + 10 + 6 + 6 + 6 + 40 + 40 + 40 + 40 + 3 + 6)) 2 rfl) ?_
  refine Iff.trans (xn_put (t := 0) (i := 0) (f := (upF (upF (upF (upF (upF (upF (upF (dfv 3) 0 (vr 1 0)) 1 (vr 2 0)) 2 (vr 20 0)) 3 (vr 4 0)) 4 (vr 5 0)) 5 (vi 0)) 6 (vi 0))) rfl rfl rfl rfl) ?_
  rw [ov4_0]
  refine Iff.trans (x_run (pc' := 65) (ls' := [some (vr 0 0), none]) (st' := [vl 1, vr 0 0]) (mm' := ((ov4 Z (.inr (.inr (3, (upF (upF (upF (upF (upF (upF (upF (upF (dfv 3) 0 (vr 1 0)) 1 (vr 2 0)) 2 (vr 20 0)) 3 (vr 4 0)) 4 (vr 5 0)) 5 (vi 0)) 6 (vi 0)) 7 (vl 0))))) (.inr (.inl (3, 6, arF 28 0 0))) (.inr (.inl (3, 4, arF 28 6 0))) (.inr (.inl (2, 3, arF 20 1 0)))), 13, s + 6 + 4 + 10 + 6 + 6 + 6 + 40 + 40 + 40 + 40 + 3 + 6)) 2 rfl) ?_
  refine Iff.trans (xn_put (t := 0) (i := 0) (f := (upF (upF (upF (upF (upF (upF (upF (upF (dfv 3) 0 (vr 1 0)) 1 (vr 2 0)) 2 (vr 20 0)) 3 (vr 4 0)) 4 (vr 5 0)) 5 (vi 0)) 6 (vi 0)) 7 (vl 0))) rfl rfl rfl rfl) ?_
  rw [ov4_0]
  refine Iff.trans (x_run (pc' := 69) (ls' := [some (vr 0 0), none]) (st' := [vr 0 0]) (mm' := ((ov4 Z (.inr (.inr (3, (upF (upF (upF (upF (upF (upF (upF (upF (upF (dfv 3) 0 (vr 1 0)) 1 (vr 2 0)) 2 (vr 20 0)) 3 (vr 4 0)) 4 (vr 5 0)) 5 (vi 0)) 6 (vi 0)) 7 (vl 0)) 8 (vl 1))))) (.inr (.inl (3, 6, arF 28 0 0))) (.inr (.inl (3, 4, arF 28 6 0))) (.inr (.inl (2, 3, arF 20 1 0)))), 13, s + 6 + 4 + 10 + 6 + 6 + 6 + 40 + 40 + 40 + 40 + 3 + 6)) 1 rfl) ?_
  refine Iff.trans (xn_new (c := 13) (t := 30) (i := 0) rfl rfl rfl rfl) ?_
  refine Iff.trans (x_run (pc' := 73) (ls' := [some (vr 0 0), none]) (st' := [vr 30 0, vr 30 0, vr 0 0]) (mm' := (upM (ov4 Z (.inr (.inr (3, (upF (upF (upF (upF (upF (upF (upF (upF (upF (dfv 3) 0 (vr 1 0)) 1 (vr 2 0)) 2 (vr 20 0)) 3 (vr 4 0)) 4 (vr 5 0)) 5 (vi 0)) 6 (vi 0)) 7 (vl 0)) 8 (vl 1))))) (.inr (.inl (3, 6, arF 28 0 0))) (.inr (.inl (3, 4, arF 28 6 0))) (.inr (.inl (2, 3, arF 20 1 0)))) (30, 0) (.inr (.inr (2, dfv 2))), 14, s + 6 + 4 + 10 + 6 + 6 + 6 + 40 + 40 + 40 + 40 + 3 + 6 + 6)) 1 rfl) ?_
  refine Iff.trans (x_call (M' := m_S_init) (av := [vr 30 0]) (rest := [vr 30 0, vr 0 0]) (pc' := 76) rfl rfl) ?_
  refine Iff.trans (s_S_init (m := (ov4 Z (.inr (.inr (3, (upF (upF (upF (upF (upF (upF (upF (upF (upF (dfv 3) 0 (vr 1 0)) 1 (vr 2 0)) 2 (vr 20 0)) 3 (vr 4 0)) 4 (vr 5 0)) 5 (vi 0)) 6 (vi 0)) 7 (vl 0)) 8 (vl 1))))) (.inr (.inl (3, 6, arF 28 0 0))) (.inr (.inl (3, 4, arF 28 6 0))) (.inr (.inl (2, 3, arF 20 1 0))))) h30 h31 h32 (by decide) (by decide)) ?_
  rw [ap_n]
  refine Iff.trans (xn_put (t := 0) (i := 0) (f := (upF (upF (upF (upF (upF (upF (upF (upF (upF (dfv 3) 0 (vr 1 0)) 1 (vr 2 0)) 2 (vr 20 0)) 3 (vr 4 0)) 4 (vr 5 0)) 5 (vi 0)) 6 (vi 0)) 7 (vl 0)) 8 (vl 1))) rfl rfl rfl rfl) ?_
  rw [ov4_0]
  refine Iff.trans (x_run (pc' := 83) (ls' := [some (vr 0 0), none]) (st' := [vi 1000, vr 0 0]) (mm' := ((ov4 Z (.inr (.inr (3, (upF (upF (upF (upF (upF (upF (upF (upF (upF (upF (dfv 3) 0 (vr 1 0)) 1 (vr 2 0)) 2 (vr 20 0)) 3 (vr 4 0)) 4 (vr 5 0)) 5 (vi 0)) 6 (vi 0)) 7 (vl 0)) 8 (vl 1)) 9 (vr 30 0))))) (.inr (.inl (3, 6, arF 28 0 0))) (.inr (.inl (3, 4, arF 28 6 0))) (.inr (.inl (2, 3, arF 20 1 0)))), 16, s + 6 + 4 + 10 + 6 + 6 + 6 + 40 + 40 + 40 + 40 + 3 + 6 + 6 + 4 + 3)) 2 rfl) ?_
  refine Iff.trans (xn_arrI (c := 16) (n := 1000) (t := 11) (i := 0) rfl rfl rfl (by decide) h11) ?_
  refine Iff.trans (xn_put (t := 0) (i := 0) (f := (upF (upF (upF (upF (upF (upF (upF (upF (upF (upF (dfv 3) 0 (vr 1 0)) 1 (vr 2 0)) 2 (vr 20 0)) 3 (vr 4 0)) 4 (vr 5 0)) 5 (vi 0)) 6 (vi 0)) 7 (vl 0)) 8 (vl 1)) 9 (vr 30 0))) rfl rfl rfl rfl) ?_
  rw [ov4_0]
  refine Iff.trans (x_run (pc' := 91) (ls' := [some (vr 0 0), none]) (st' := [vi 28, vr 0 0]) (mm' := ((ov4 Z (.inr (.inr (3, (upF (upF (upF (upF (upF (upF (upF (upF (upF (upF (upF (dfv 3) 0 (vr 1 0)) 1 (vr 2 0)) 2 (vr 20 0)) 3 (vr 4 0)) 4 (vr 5 0)) 5 (vi 0)) 6 (vi 0)) 7 (vl 0)) 8 (vl 1)) 9 (vr 30 0)) 10 (vr 11 0))))) (.inr (.inl (3, 6, arF 28 0 0))) (.inr (.inl (3, 4, arF 28 6 0))) (.inr (.inl (2, 3, arF 20 1 0)))), 17, s + 6 + 4 + 10 + 6 + 6 + 6 + 40 + 40 + 40 + 40 + 3 + 6 + 6 + 4 + 3 + 1000)) 2 rfl) ?_
  refine Iff.trans (xn_arrI (c := 17) (n := 28) (t := 12) (i := 0) rfl rfl rfl (by decide) h12) ?_
  refine Iff.trans (xn_put (t := 0) (i := 0) (f := (upF (upF (upF (upF (upF (upF (upF (upF (upF (upF (upF (dfv 3) 0 (vr 1 0)) 1 (vr 2 0)) 2 (vr 20 0)) 3 (vr 4 0)) 4 (vr 5 0)) 5 (vi 0)) 6 (vi 0)) 7 (vl 0)) 8 (vl 1)) 9 (vr 30 0)) 10 (vr 11 0))) rfl rfl rfl rfl) ?_
  rw [ov4_0]
  refine Iff.trans (x_run (pc' := 99) (ls' := [some (vr 0 0), none]) (st' := [vi 64, vr 0 0]) (mm' := ((ov4 Z (.inr (.inr (3, (upF (upF (upF (upF (upF (upF (upF (upF (upF (upF (upF (upF (dfv 3) 0 (vr 1 0)) 1 (vr 2 0)) 2 (vr 20 0)) 3 (vr 4 0)) 4 (vr 5 0)) 5 (vi 0)) 6 (vi 0)) 7 (vl 0)) 8 (vl 1)) 9 (vr 30 0)) 10 (vr 11 0)) 11 (vr 12 0))))) (.inr (.inl (3, 6, arF 28 0 0))) (.inr (.inl (3, 4, arF 28 6 0))) (.inr (.inl (2, 3, arF 20 1 0)))), 18, s + 6 + 4 + 10 + 6 + 6 + 6 + 40 + 40 + 40 + 40 + 3 + 6 + 6 + 4 + 3 + 1000 + 28)) 2 rfl) ?_
  refine Iff.trans (xn_arrI (c := 18) (n := 64) (t := 13) (i := 0) rfl rfl rfl (by decide) h13) ?_
  refine Iff.trans (xn_put (t := 0) (i := 0) (f := (upF (upF (upF (upF (upF (upF (upF (upF (upF (upF (upF (upF (dfv 3) 0 (vr 1 0)) 1 (vr 2 0)) 2 (vr 20 0)) 3 (vr 4 0)) 4 (vr 5 0)) 5 (vi 0)) 6 (vi 0)) 7 (vl 0)) 8 (vl 1)) 9 (vr 30 0)) 10 (vr 11 0)) 11 (vr 12 0))) rfl rfl rfl rfl) ?_
  rw [ov4_0]
  refine Iff.trans (x_run (pc' := 106) (ls' := [some (vr 0 0), some (vi 0)]) (st' := []) (mm' := ((ov4 Z (.inr (.inr (3, (upF (upF (upF (upF (upF (upF (upF (upF (upF (upF (upF (upF (upF (dfv 3) 0 (vr 1 0)) 1 (vr 2 0)) 2 (vr 20 0)) 3 (vr 4 0)) 4 (vr 5 0)) 5 (vi 0)) 6 (vi 0)) 7 (vl 0)) 8 (vl 1)) 9 (vr 30 0)) 10 (vr 11 0)) 11 (vr 12 0)) 12 (vr 13 0))))) (.inr (.inl (3, 6, arF 28 0 0))) (.inr (.inl (3, 4, arF 28 6 0))) (.inr (.inl (2, 3, arF 20 1 0)))), 19, s + 6 + 4 + 10 + 6 + 6 + 6 + 40 + 40 + 40 + 40 + 3 + 6 + 6 + 4 + 3 + 1000 + 28 + 64)) 2 rfl) ?_
  exact Iff.rfl
def fD_obj : Nat → AV := (upF (upF (upF (upF (upF (upF (upF (upF (upF (upF (upF (upF (upF (upF (upF (upF (upF (upF (dfv 4) 0 (vr 40 0)) 1 (vr 41 0)) 2 (vr 42 0)) 3 (vr 43 0)) 5 (vr 45 0)) 6 (vr 46 0)) 7 (vr 47 0)) 8 (vr 48 0)) 10 (vr 50 0)) 11 (vr 51 0)) 14 (vl 1)) 16 (vr 56 0)) 18 (vr 58 0)) 19 (vr 59 0)) 20 (vr 60 0)) 21 (vr 61 0)) 22 (vr 62 0)) 23 (vr 63 0))
theorem c_D_init {d s : Nat} {Z : AM} {Q : Option AV → AMem → Prop} (h41 : Z (41, 0) = .inl (0, 240, fun _ => 0)) (h43 : Z (43, 0) = .inl (0, 240, fun _ => 0)) (h45 : Z (45, 0) = .inl (0, 6, fun _ => 0)) (h46 : Z (46, 0) = .inl (0, 25, fun _ => 0)) (h47 : Z (47, 0) = .inl (0, 25, fun _ => 0)) (h48 : Z (48, 0) = .inl (0, 1000, fun _ => 0)) (h50 : Z (50, 0) = .inl (0, 3078, fun _ => 0)) (h51 : Z (51, 0) = .inl (1, 3, fun _ => 0)) (h56 : Z (56, 0) = .inl (0, 6, fun _ => 0)) (h58 : Z (58, 0) = .inl (0, 6, fun _ => 0)) (h59 : Z (59, 0) = .inl (0, 25, fun _ => 0)) (h60 : Z (60, 0) = .inl (1, 1000, fun _ => 0)) (h61 : Z (61, 0) = .inl (0, 6, fun _ => 0)) (h62 : Z (62, 0) = .inl (0, 64, fun _ => 0)) (h63 : Z (63, 0) = .inl (0, 2401, fun _ => 0)) : X d m_D_init 0 [some (vr 39 0), none] [] (ov3 Z (.inr (.inr (4, dfv 4))) (Z (40, 0)) (Z (42, 0)), 64, s) Q ↔ X d m_D_init 151 [some (vr 39 0), some (vi 0)] [] (ov3 Z (.inr (.inr (4, fD_obj))) (.inl (0, 6, ngF 0)) (.inl (0, 4, ngF 0)), 81, s + 6 + 240 + 4 + 240 + 6 + 25 + 25 + 1000 + 3078 + 3 + 6 + 6 + 25 + 1000 + 6 + 64 + 2401) Q := by
  refine Iff.trans (x_run (pc' := 7) (ls' := [some (vr 39 0), none]) (st' := [vi 6, vr 39 0]) (mm' := ((ov3 Z (.inr (.inr (4, (dfv 4)))) (Z (40, 0)) (Z (42, 0))), 64, s)) 4 rfl) ?_
  refine Iff.trans (xn_arr (c := 64) (n := 6) (t := 40) (i := 0) rfl rfl rfl (by decide)) ?_
  rw [ov3_1, ngF_0]
  refine Iff.trans (xn_put (t := 39) (i := 0) (f := (dfv 4)) rfl rfl rfl rfl) ?_
  rw [ov3_0]
  refine Iff.trans (x_run (pc' := 16) (ls' := [some (vr 39 0), none]) (st' := [vi 240, vr 39 0]) (mm' := ((ov3 Z (.inr (.inr (4, (upF (dfv 4) 0 (vr 40 0))))) (.inl (0, 6, ngF 0)) (Z (42, 0))), 65, s + 6)) 2 rfl) ?_
  refine Iff.trans (xn_arrI (c := 65) (n := 240) (t := 41) (i := 0) rfl rfl rfl (by decide) h41) ?_
  refine Iff.trans (xn_put (t := 39) (i := 0) (f := (upF (dfv 4) 0 (vr 40 0))) rfl rfl rfl rfl) ?_
  rw [ov3_0]
  refine Iff.trans (x_run (pc' := 23) (ls' := [some (vr 39 0), none]) (st' := [vi 4, vr 39 0]) (mm' := ((ov3 Z (.inr (.inr (4, (upF (upF (dfv 4) 0 (vr 40 0)) 1 (vr 41 0))))) (.inl (0, 6, ngF 0)) (Z (42, 0))), 66, s + 6 + 240)) 2 rfl) ?_
  refine Iff.trans (xn_arr (c := 66) (n := 4) (t := 42) (i := 0) rfl rfl rfl (by decide)) ?_
  rw [ov3_2, ngF_0]
  refine Iff.trans (xn_put (t := 39) (i := 0) (f := (upF (upF (dfv 4) 0 (vr 40 0)) 1 (vr 41 0))) rfl rfl rfl rfl) ?_
  rw [ov3_0]
  refine Iff.trans (x_run (pc' := 32) (ls' := [some (vr 39 0), none]) (st' := [vi 240, vr 39 0]) (mm' := ((ov3 Z (.inr (.inr (4, (upF (upF (upF (dfv 4) 0 (vr 40 0)) 1 (vr 41 0)) 2 (vr 42 0))))) (.inl (0, 6, ngF 0)) (.inl (0, 4, ngF 0))), 67, s + 6 + 240 + 4)) 2 rfl) ?_
  refine Iff.trans (xn_arrI (c := 67) (n := 240) (t := 43) (i := 0) rfl rfl rfl (by decide) h43) ?_
  refine Iff.trans (xn_put (t := 39) (i := 0) (f := (upF (upF (upF (dfv 4) 0 (vr 40 0)) 1 (vr 41 0)) 2 (vr 42 0))) rfl rfl rfl rfl) ?_
  rw [ov3_0]
  refine Iff.trans (x_run (pc' := 40) (ls' := [some (vr 39 0), none]) (st' := [vi 6, vr 39 0]) (mm' := ((ov3 Z (.inr (.inr (4, (upF (upF (upF (upF (dfv 4) 0 (vr 40 0)) 1 (vr 41 0)) 2 (vr 42 0)) 3 (vr 43 0))))) (.inl (0, 6, ngF 0)) (.inl (0, 4, ngF 0))), 68, s + 6 + 240 + 4 + 240)) 2 rfl) ?_
  refine Iff.trans (xn_arrI (c := 68) (n := 6) (t := 45) (i := 0) rfl rfl rfl (by decide) h45) ?_
  refine Iff.trans (xn_put (t := 39) (i := 0) (f := (upF (upF (upF (upF (dfv 4) 0 (vr 40 0)) 1 (vr 41 0)) 2 (vr 42 0)) 3 (vr 43 0))) rfl rfl rfl rfl) ?_
  rw [ov3_0]
  refine Iff.trans (x_run (pc' := 48) (ls' := [some (vr 39 0), none]) (st' := [vi 25, vr 39 0]) (mm' := ((ov3 Z (.inr (.inr (4, (upF (upF (upF (upF (upF (dfv 4) 0 (vr 40 0)) 1 (vr 41 0)) 2 (vr 42 0)) 3 (vr 43 0)) 5 (vr 45 0))))) (.inl (0, 6, ngF 0)) (.inl (0, 4, ngF 0))), 69, s + 6 + 240 + 4 + 240 + 6)) 2 rfl) ?_
  refine Iff.trans (xn_arrI (c := 69) (n := 25) (t := 46) (i := 0) rfl rfl rfl (by decide) h46) ?_
  refine Iff.trans (xn_put (t := 39) (i := 0) (f := (upF (upF (upF (upF (upF (dfv 4) 0 (vr 40 0)) 1 (vr 41 0)) 2 (vr 42 0)) 3 (vr 43 0)) 5 (vr 45 0))) rfl rfl rfl rfl) ?_
  rw [ov3_0]
  refine Iff.trans (x_run (pc' := 56) (ls' := [some (vr 39 0), none]) (st' := [vi 25, vr 39 0]) (mm' := ((ov3 Z (.inr (.inr (4, (upF (upF (upF (upF (upF (upF (dfv 4) 0 (vr 40 0)) 1 (vr 41 0)) 2 (vr 42 0)) 3 (vr 43 0)) 5 (vr 45 0)) 6 (vr 46 0))))) (.inl (0, 6, ngF 0)) (.inl (0, 4, ngF 0))), 70, s + 6 + 240 + 4 + 240 + 6 + 25)) 2 rfl) ?_
  refine Iff.trans (xn_arrI (c := 70) (n := 25) (t := 47) (i := 0) rfl rfl rfl (by decide) h47) ?_
  refine Iff.trans (xn_put (t := 39) (i := 0) (f := (upF (upF (upF (upF (upF (upF (dfv 4) 0 (vr 40 0)) 1 (vr 41 0)) 2 (vr 42 0)) 3 (vr 43 0)) 5 (vr 45 0)) 6 (vr 46 0))) rfl rfl rfl rfl) ?_
  rw [ov3_0]
  refine Iff.trans (x_run (pc' := 65) (ls' := [some (vr 39 0), none]) (st' := [vi 1000, vr 39 0]) (mm' := ((ov3 Z (.inr (.inr (4, (upF (upF (upF (upF (upF (upF (upF (dfv 4) 0 (vr 40 0)) 1 (vr 41 0)) 2 (vr 42 0)) 3 (vr 43 0)) 5 (vr 45 0)) 6 (vr 46 0)) 7 (vr 47 0))))) (.inl (0, 6, ngF 0)) (.inl (0, 4, ngF 0))), 71, s + 6 + 240 + 4 + 240 + 6 + 25 + 25)) 2 rfl) ?_
  refine Iff.trans (xn_arrI (c := 71) (n := 1000) (t := 48) (i := 0) rfl rfl rfl (by decide) h48) ?_
  refine Iff.trans (xn_put (t := 39) (i := 0) (f := (upF (upF (upF (upF (upF (upF (upF (dfv 4) 0 (vr 40 0)) 1 (vr 41 0)) 2 (vr 42 0)) 3 (vr 43 0)) 5 (vr 45 0)) 6 (vr 46 0)) 7 (vr 47 0))) rfl rfl rfl rfl) ?_
  rw [ov3_0]
  refine Iff.trans (x_run (pc' := 74) (ls' := [some (vr 39 0), none]) (st' := [vi 3078, vr 39 0]) (mm' := ((ov3 Z (.inr (.inr (4, (upF (upF (upF (upF (upF (upF (upF (upF (dfv 4) 0 (vr 40 0)) 1 (vr 41 0)) 2 (vr 42 0)) 3 (vr 43 0)) 5 (vr 45 0)) 6 (vr 46 0)) 7 (vr 47 0)) 8 (vr 48 0))))) (.inl (0, 6, ngF 0)) (.inl (0, 4, ngF 0))), 72, s + 6 + 240 + 4 + 240 + 6 + 25 + 25 + 1000)) 2 rfl) ?_
  refine Iff.trans (xn_arrI (c := 72) (n := 3078) (t := 50) (i := 0) rfl rfl rfl (by decide) h50) ?_
  refine Iff.trans (xn_put (t := 39) (i := 0) (f := (upF (upF (upF (upF (upF (upF (upF (upF (dfv 4) 0 (vr 40 0)) 1 (vr 41 0)) 2 (vr 42 0)) 3 (vr 43 0)) 5 (vr 45 0)) 6 (vr 46 0)) 7 (vr 47 0)) 8 (vr 48 0))) rfl rfl rfl rfl) ?_
  rw [ov3_0]
  refine Iff.trans (x_run (pc' := 81) (ls' := [some (vr 39 0), none]) (st' := [vi 3, vr 39 0]) (mm' := ((ov3 Z (.inr (.inr (4, (upF (upF (upF (upF (upF (upF (upF (upF (upF (dfv 4) 0 (vr 40 0)) 1 (vr 41 0)) 2 (vr 42 0)) 3 (vr 43 0)) 5 (vr 45 0)) 6 (vr 46 0)) 7 (vr 47 0)) 8 (vr 48 0)) 10 (vr 50 0))))) (.inl (0, 6, ngF 0)) (.inl (0, 4, ngF 0))), 73, s + 6 + 240 + 4 + 240 + 6 + 25 + 25 + 1000 + 3078)) 2 rfl) ?_
  refine Iff.trans (xn_arrY (c := 73) (n := 3) (t := 51) (i := 0) rfl rfl rfl (by decide) h51) ?_
  refine Iff.trans (xn_put (t := 39) (i := 0) (f := (upF (upF (upF (upF (upF (upF (upF (upF (upF (dfv 4) 0 (vr 40 0)) 1 (vr 41 0)) 2 (vr 42 0)) 3 (vr 43 0)) 5 (vr 45 0)) 6 (vr 46 0)) 7 (vr 47 0)) 8 (vr 48 0)) 10 (vr 50 0))) rfl rfl rfl rfl) ?_
  rw [ov3_0]
  refine Iff.trans (x_run (pc' := 88) (ls' := [some (vr 39 0), none]) (st' := [vl 1, vr 39 0]) (mm' := ((ov3 Z (.inr (.inr (4, (upF (upF (upF (upF (upF (upF (upF (upF (upF (upF (dfv 4) 0 (vr 40 0)) 1 (vr 41 0)) 2 (vr 42 0)) 3 (vr 43 0)) 5 (vr 45 0)) 6 (vr 46 0)) 7 (vr 47 0)) 8 (vr 48 0)) 10 (vr 50 0)) 11 (vr 51 0))))) (.inl (0, 6, ngF 0)) (.inl (0, 4, ngF 0))), 74, s + 6 + 240 + 4 + 240 + 6 + 25 + 25 + 1000 + 3078 + 3)) 2 rfl) ?_
  refine Iff.trans (xn_put (t := 39) (i := 0) (f := (upF (upF (upF (upF (upF (upF (upF (upF (upF (upF (dfv 4) 0 (vr 40 0)) 1 (vr 41 0)) 2 (vr 42 0)) 3 (vr 43 0)) 5 (vr 45 0)) 6 (vr 46 0)) 7 (vr 47 0)) 8 (vr 48 0)) 10 (vr 50 0)) 11 (vr 51 0))) rfl rfl rfl rfl) ?_
  rw [ov3_0]
  refine Iff.trans (x_run (pc' := 94) (ls' := [some (vr 39 0), none]) (st' := [vi 6, vr 39 0]) (mm' := ((ov3 Z (.inr (.inr (4, (upF (upF (upF (upF (upF (upF (upF (upF (upF (upF (upF (dfv 4) 0 (vr 40 0)) 1 (vr 41 0)) 2 (vr 42 0)) 3 (vr 43 0)) 5 (vr 45 0)) 6 (vr 46 0)) 7 (vr 47 0)) 8 (vr 48 0)) 10 (vr 50 0)) 11 (vr 51 0)) 14 (vl 1))))) (.inl (0, 6, ngF 0)) (.inl (0, 4, ngF 0))), 74, s + 6 + 240 + 4 + 240 + 6 + 25 + 25 + 1000 + 3078 + 3)) 2 rfl) ?_
  refine Iff.trans (xn_arrI (c := 74) (n := 6) (t := 56) (i := 0) rfl rfl rfl (by decide) h56) ?_
  refine Iff.trans (xn_put (t := 39) (i := 0) (f := (upF (upF (upF (upF (upF (upF (upF (upF (upF (upF (upF (dfv 4) 0 (vr 40 0)) 1 (vr 41 0)) 2 (vr 42 0)) 3 (vr 43 0)) 5 (vr 45 0)) 6 (vr 46 0)) 7 (vr 47 0)) 8 (vr 48 0)) 10 (vr 50 0)) 11 (vr 51 0)) 14 (vl 1))) rfl rfl rfl rfl) ?_
  rw [ov3_0]
  refine Iff.trans (x_run (pc' := 102) (ls' := [some (vr 39 0), none]) (st' := [vi 6, vr 39 0]) (mm' := ((ov3 Z (.inr (.inr (4, (upF (upF (upF (upF (upF (upF (upF (upF (upF (upF (upF (upF (dfv 4) 0 (vr 40 0)) 1 (vr 41 0)) 2 (vr 42 0)) 3 (vr 43 0)) 5 (vr 45 0)) 6 (vr 46 0)) 7 (vr 47 0)) 8 (vr 48 0)) 10 (vr 50 0)) 11 (vr 51 0)) 14 (vl 1)) 16 (vr 56 0))))) (.inl (0, 6, ngF 0)) (.inl (0, 4, ngF 0))), 75, s + 6 + 240 + 4 + 240 + 6 + 25 + 25 + 1000 + 3078 + 3 + 6)) 2 rfl) ?_
  refine Iff.trans (xn_arrI (c := 75) (n := 6) (t := 58) (i := 0) rfl rfl rfl (by decide) h58) ?_
  refine Iff.trans (xn_put (t := 39) (i := 0) (f := (upF (upF (upF (upF (upF (upF (upF (upF (upF (upF (upF (upF (dfv 4) 0 (vr 40 0)) 1 (vr 41 0)) 2 (vr 42 0)) 3 (vr 43 0)) 5 (vr 45 0)) 6 (vr 46 0)) 7 (vr 47 0)) 8 (vr 48 0)) 10 (vr 50 0)) 11 (vr 51 0)) 14 (vl 1)) 16 (vr 56 0))) rfl rfl rfl rfl) ?_
  rw [ov3_0]
  refine Iff.trans (x_run (pc' := 110) (ls' := [some (vr 39 0), none]) (st' := [vi 25, vr 39 0]) (mm' := ((ov3 Z (.inr (.inr (4, (upF (upF (upF (upF (upF (upF (upF (upF (upF (upF (upF (upF (upF (dfv 4) 0 (vr 40 0)) 1 (vr 41 0)) 2 (vr 42 0)) 3 (vr 43 0)) 5 (vr 45 0)) 6 (vr 46 0)) 7 (vr 47 0)) 8 (vr 48 0)) 10 (vr 50 0)) 11 (vr 51 0)) 14 (vl 1)) 16 (vr 56 0)) 18 (vr 58 0))))) (.inl (0, 6, ngF 0)) (.inl (0, 4, ngF 0))), 76, s + 6 + 240 + 4 + 240 + 6 + 25 + 25 + 1000 + 3078 + 3 + 6 + 6)) 2 rfl) ?_
  refine Iff.trans (xn_arrI (c := 76) (n := 25) (t := 59) (i := 0) rfl rfl rfl (by decide) h59) ?_
  refine Iff.trans (xn_put (t := 39) (i := 0) (f := (upF (upF (upF (upF (upF (upF (upF (upF (upF (upF (upF (upF (upF (dfv 4) 0 (vr 40 0)) 1 (vr 41 0)) 2 (vr 42 0)) 3 (vr 43 0)) 5 (vr 45 0)) 6 (vr 46 0)) 7 (vr 47 0)) 8 (vr 48 0)) 10 (vr 50 0)) 11 (vr 51 0)) 14 (vl 1)) 16 (vr 56 0)) 18 (vr 58 0))) rfl rfl rfl rfl) ?_
  rw [ov3_0]
  refine Iff.trans (x_run (pc' := 119) (ls' := [some (vr 39 0), none]) (st' := [vi 1000, vr 39 0]) (mm' := ((ov3 Z (.inr (.inr (4, (upF (upF (upF (upF (upF (upF (upF (upF (upF (upF (upF (upF (upF (upF (dfv 4) 0 (vr 40 0)) 1 (vr 41 0)) 2 (vr 42 0)) 3 (vr 43 0)) 5 (vr 45 0)) 6 (vr 46 0)) 7 (vr 47 0)) 8 (vr 48 0)) 10 (vr 50 0)) 11 (vr 51 0)) 14 (vl 1)) 16 (vr 56 0)) 18 (vr 58 0)) 19 (vr 59 0))))) (.inl (0, 6, ngF 0)) (.inl (0, 4, ngF 0))), 77, s + 6 + 240 + 4 + 240 + 6 + 25 + 25 + 1000 + 3078 + 3 + 6 + 6 + 25)) 2 rfl) ?_
  refine Iff.trans (xn_arrY (c := 77) (n := 1000) (t := 60) (i := 0) rfl rfl rfl (by decide) h60) ?_
  refine Iff.trans (xn_put (t := 39) (i := 0) (f := (upF (upF (upF (upF (upF (upF (upF (upF (upF (upF (upF (upF (upF (upF (dfv 4) 0 (vr 40 0)) 1 (vr 41 0)) 2 (vr 42 0)) 3 (vr 43 0)) 5 (vr 45 0)) 6 (vr 46 0)) 7 (vr 47 0)) 8 (vr 48 0)) 10 (vr 50 0)) 11 (vr 51 0)) 14 (vl 1)) 16 (vr 56 0)) 18 (vr 58 0)) 19 (vr 59 0))) rfl rfl rfl rfl) ?_
  rw [ov3_0]
  refine Iff.trans (x_run (pc' := 127) (ls' := [some (vr 39 0), none]) (st' := [vi 6, vr 39 0]) (mm' := ((ov3 Z (.inr (.inr (4, (upF (upF (upF (upF (upF (upF (upF (upF (upF (upF (upF (upF (upF (upF (upF (dfv 4) 0 (vr 40 0)) 1 (vr 41 0)) 2 (vr 42 0)) 3 (vr 43 0)) 5 (vr 45 0)) 6 (vr 46 0)) 7 (vr 47 0)) 8 (vr 48 0)) 10 (vr 50 0)) 11 (vr 51 0)) 14 (vl 1)) 16 (vr 56 0)) 18 (vr 58 0)) 19 (vr 59 0)) 20 (vr 60 0))))) (.inl (0, 6, ngF 0)) (.inl (0, 4, ngF 0))), 78, s + 6 + 240 + 4 + 240 + 6 + 25 + 25 + 1000 + 3078 + 3 + 6 + 6 + 25 + 1000)) 2 rfl) ?_
  refine Iff.trans (xn_arrI (c := 78) (n := 6) (t := 61) (i := 0) rfl rfl rfl (by decide) h61) ?_
  refine Iff.trans (xn_put (t := 39) (i := 0) (f := (upF (upF (upF (upF (upF (upF (upF (upF (upF (upF (upF (upF (upF (upF (upF (dfv 4) 0 (vr 40 0)) 1 (vr 41 0)) 2 (vr 42 0)) 3 (vr 43 0)) 5 (vr 45 0)) 6 (vr 46 0)) 7 (vr 47 0)) 8 (vr 48 0)) 10 (vr 50 0)) 11 (vr 51 0)) 14 (vl 1)) 16 (vr 56 0)) 18 (vr 58 0)) 19 (vr 59 0)) 20 (vr 60 0))) rfl rfl rfl rfl) ?_
  rw [ov3_0]
  refine Iff.trans (x_run (pc' := 135) (ls' := [some (vr 39 0), none]) (st' := [vi 64, vr 39 0]) (mm' := ((ov3 Z (.inr (.inr (4, (upF (upF (upF (upF (upF (upF (upF (upF (upF (upF (upF (upF (upF (upF (upF (upF (dfv 4) 0 (vr 40 0)) 1 (vr 41 0)) 2 (vr 42 0)) 3 (vr 43 0)) 5 (vr 45 0)) 6 (vr 46 0)) 7 (vr 47 0)) 8 (vr 48 0)) 10 (vr 50 0)) 11 (vr 51 0)) 14 (vl 1)) 16 (vr 56 0)) 18 (vr 58 0)) 19 (vr 59 0)) 20 (vr 60 0)) 21 (vr 61 0))))) (.inl (0, 6, ngF 0)) (.inl (0, 4, ngF 0))), 79, s + 6 + 240 + 4 + 240 + 6 + 25 + 25 + 1000 + 3078 + 3 + 6 + 6 + 25 + 1000 + 6)) 2 rfl) ?_
  refine Iff.trans (xn_arrI (c := 79) (n := 64) (t := 62) (i := 0) rfl rfl rfl (by decide) h62) ?_
  refine Iff.trans (xn_put (t := 39) (i := 0) (f := (upF (upF (upF (upF (upF (upF (upF (upF (upF (upF (upF (upF (upF (upF (upF (upF (dfv 4) 0 (vr 40 0)) 1 (vr 41 0)) 2 (vr 42 0)) 3 (vr 43 0)) 5 (vr 45 0)) 6 (vr 46 0)) 7 (vr 47 0)) 8 (vr 48 0)) 10 (vr 50 0)) 11 (vr 51 0)) 14 (vl 1)) 16 (vr 56 0)) 18 (vr 58 0)) 19 (vr 59 0)) 20 (vr 60 0)) 21 (vr 61 0))) rfl rfl rfl rfl) ?_
  rw [ov3_0]
  refine Iff.trans (x_run (pc' := 144) (ls' := [some (vr 39 0), none]) (st' := [vi 2401, vr 39 0]) (mm' := ((ov3 Z (.inr (.inr (4, (upF (upF (upF (upF (upF (upF (upF (upF (upF (upF (upF (upF (upF (upF (upF (upF (upF (dfv 4) 0 (vr 40 0)) 1 (vr 41 0)) 2 (vr 42 0)) 3 (vr 43 0)) 5 (vr 45 0)) 6 (vr 46 0)) 7 (vr 47 0)) 8 (vr 48 0)) 10 (vr 50 0)) 11 (vr 51 0)) 14 (vl 1)) 16 (vr 56 0)) 18 (vr 58 0)) 19 (vr 59 0)) 20 (vr 60 0)) 21 (vr 61 0)) 22 (vr 62 0))))) (.inl (0, 6, ngF 0)) (.inl (0, 4, ngF 0))), 80, s + 6 + 240 + 4 + 240 + 6 + 25 + 25 + 1000 + 3078 + 3 + 6 + 6 + 25 + 1000 + 6 + 64)) 2 rfl) ?_
  refine Iff.trans (xn_arrI (c := 80) (n := 2401) (t := 63) (i := 0) rfl rfl rfl (by decide) h63) ?_
  refine Iff.trans (xn_put (t := 39) (i := 0) (f := (upF (upF (upF (upF (upF (upF (upF (upF (upF (upF (upF (upF (upF (upF (upF (upF (upF (dfv 4) 0 (vr 40 0)) 1 (vr 41 0)) 2 (vr 42 0)) 3 (vr 43 0)) 5 (vr 45 0)) 6 (vr 46 0)) 7 (vr 47 0)) 8 (vr 48 0)) 10 (vr 50 0)) 11 (vr 51 0)) 14 (vl 1)) 16 (vr 56 0)) 18 (vr 58 0)) 19 (vr 59 0)) 20 (vr 60 0)) 21 (vr 61 0)) 22 (vr 62 0))) rfl rfl rfl rfl) ?_
  rw [ov3_0]
  refine Iff.trans (x_run (pc' := 151) (ls' := [some (vr 39 0), some (vi 0)]) (st' := []) (mm' := ((ov3 Z (.inr (.inr (4, (upF (upF (upF (upF (upF (upF (upF (upF (upF (upF (upF (upF (upF (upF (upF (upF (upF (upF (dfv 4) 0 (vr 40 0)) 1 (vr 41 0)) 2 (vr 42 0)) 3 (vr 43 0)) 5 (vr 45 0)) 6 (vr 46 0)) 7 (vr 47 0)) 8 (vr 48 0)) 10 (vr 50 0)) 11 (vr 51 0)) 14 (vl 1)) 16 (vr 56 0)) 18 (vr 58 0)) 19 (vr 59 0)) 20 (vr 60 0)) 21 (vr 61 0)) 22 (vr 62 0)) 23 (vr 63 0))))) (.inl (0, 6, ngF 0)) (.inl (0, 4, ngF 0))), 81, s + 6 + 240 + 4 + 240 + 6 + 25 + 25 + 1000 + 3078 + 3 + 6 + 6 + 25 + 1000 + 6 + 64 + 2401)) 2 rfl) ?_
  exact Iff.rfl
