/-! THE MEMORY of the class and of the reference: shapes by tags, the ints in I, the longs in J -/
def lenP (i : Nat) : Nat := if i < 6 then 40 else 60
def refv (c b i : Nat) : AV := match c with
  | 0 => vr (21 + b) i
  | 1 => vr 29 i
  | 2 => vr (31 + b) 0
  | 3 => match b with
    | 0 => vr 1 0
    | 1 => vr 2 0
    | 2 => vr 20 0
    | 3 => vr 4 0
    | 4 => vr 5 0
    | 9 => vr 30 0
    | 10 => vr 11 0
    | 11 => vr 12 0
    | 12 => vr 13 0
    | _ => .inr (.inr none)
  | _ => bif Nat.ble b 23 then vr (40 + b) 0 else .inr (.inr none)
def ofld (c b i : Nat) (f g : Nat → Int) : AV := match clF c b with
  | 0 => vi (f b)
  | 1 => vl (g b)
  | _ => refv c b i
def cellF (sc : Nat × (Nat → Int)) (t i : Nat) (f g : Nat → Int) : AE := (bif Nat.ble t 31 then (bif Nat.ble t 21 then (bif Nat.ble t 5 then (bif Nat.ble t 1 then (bif Nat.ble t 0 then .inr (.inr (3, fun b => ofld 3 b i f g)) else .inr (.inl (3, 6, fun j => if j < 6 then some (28, j) else none))) else (bif Nat.ble t 2 then .inr (.inl (3, 4, fun j => if j < 4 then some (28, 6 + j) else none)) else (bif Nat.ble t 4 then .inr (.inl (2, 3, fun j => if j < 3 then some (20, 1 + j) else none)) else .inl (0, 6, f)))) else (bif Nat.ble t 12 then (bif Nat.ble t 11 then .inl (0, 1000, f) else .inl (0, 28, f)) else (bif Nat.ble t 13 then .inl (0, 64, f) else (bif Nat.ble t 20 then .inr (.inr (0, fun b => ofld 0 b i f g)) else .inl (0, 6, f))))) else (bif Nat.ble t 26 then (bif Nat.ble t 23 then (bif Nat.ble t 22 then .inl (0, 6, f) else .inl (0, 6, f)) else (bif Nat.ble t 24 then .inl (0, 40, f) else (bif Nat.ble t 25 then .inl (0, 40, f) else .inl (0, 40, f)))) else (bif Nat.ble t 28 then (bif Nat.ble t 27 then .inl (0, 40, f) else .inr (.inr (1, fun b => ofld 1 b i f g))) else (bif Nat.ble t 29 then .inl (0, lenP i, f) else (bif Nat.ble t 30 then .inr (.inr (2, fun b => ofld 2 b i f g)) else .inl (0, 4, f)))))) else (bif Nat.ble t 48 then (bif Nat.ble t 42 then (bif Nat.ble t 39 then (bif Nat.ble t 32 then .inl (0, 3, f) else .inr (.inr (4, fun b => ofld 4 b i f g))) else (bif Nat.ble t 40 then .inl (0, 6, f) else (bif Nat.ble t 41 then .inl (0, 240, f) else .inl (0, 4, f)))) else (bif Nat.ble t 45 then (bif Nat.ble t 43 then .inl (0, 240, f) else .inl (0, 6, f)) else (bif Nat.ble t 46 then .inl (0, 25, f) else (bif Nat.ble t 47 then .inl (0, 25, f) else .inl (0, 1000, f))))) else (bif Nat.ble t 59 then (bif Nat.ble t 51 then (bif Nat.ble t 50 then .inl (0, 3078, f) else .inl (1, 3, f)) else (bif Nat.ble t 56 then .inl (0, 6, f) else (bif Nat.ble t 58 then .inl (0, 6, f) else .inl (0, 25, f)))) else (bif Nat.ble t 61 then (bif Nat.ble t 60 then .inl (1, 1000, f) else .inl (0, 6, f)) else (bif Nat.ble t 62 then .inl (0, 64, f) else (bif Nat.ble t 63 then .inl (0, 2401, f) else .inl (4, sc.1, sc.2)))))))
abbrev TI : Type := Nat → Nat → Nat → Int
abbrev SC : Type := Nat × (Nat → Int)
def MM (sc : SC) (I J : TI) : AMem := (fun k => cellF sc k.1 k.2 (I k.1 k.2) (J k.1 k.2), 81, 10548)
def up2 (I : TI) (t i : Nat) (f : Nat → Int) : TI := fun t' => if t' = t then (fun i' => if i' = i then f else I t' i') else I t'
def upI (I : TI) (t i p : Nat) (v : Int) : TI := up2 I t i (upF (I t i) p v)
theorem up2_same (I : TI) (t i : Nat) (f : Nat → Int) : up2 I t i f t i = f := by simp [up2]
theorem up2_ne {I : TI} {t i t' i' : Nat} {f : Nat → Int} (h : (t', i') ≠ (t, i)) : up2 I t i f t' i' = I t' i' := by
  unfold up2
  by_cases h1 : t' = t
  · subst h1
    have : i' ≠ i := fun q => h (by rw [q])
    simp [this]
  · simp [h1]
theorem mm_up {sc : SC} {I J : TI} {t i : Nat} {f : Nat → Int} {e : AE} (he : cellF sc t i f (J t i) = e) : ((upM (MM sc I J).1 (t, i) e, (MM sc I J).2) : AMem) = MM sc (up2 I t i f) J := by
  subst he
  unfold MM
  congr 1
  funext k
  show (if k = (t, i) then cellF sc t i f (J t i) else cellF sc k.1 k.2 (I k.1 k.2) (J k.1 k.2)) = cellF sc k.1 k.2 (up2 I t i f k.1 k.2) (J k.1 k.2)
  split
  next h => subst h; rw [up2_same]
  next h => rw [up2_ne (I := I) (t' := k.1) (i' := k.2) h]
theorem mm_upJ {sc : SC} {I J : TI} {t i : Nat} {g : Nat → Int} {e : AE} (he : cellF sc t i (I t i) g = e) : ((upM (MM sc I J).1 (t, i) e, (MM sc I J).2) : AMem) = MM sc I (up2 J t i g) := by
  subst he
  unfold MM
  congr 1
  funext k
  show (if k = (t, i) then cellF sc t i (I t i) g else cellF sc k.1 k.2 (I k.1 k.2) (J k.1 k.2)) = cellF sc k.1 k.2 (I k.1 k.2) (up2 J t i g k.1 k.2)
  split
  next h => subst h; rw [up2_same]
  next h => rw [up2_ne (I := J) (t' := k.1) (i' := k.2) h]
theorem ofld_upI {c b i : Nat} {f g : Nat → Int} {v : Int} (hk : clF c b = 0) : (fun b' => ofld c b' i (upF f b v) g) = upF (fun b' => ofld c b' i f g) b (vi v) := by
  funext b'
  unfold upF
  by_cases h : b' = b
  · subst h
    simp [ofld, hk]
  · simp [ofld, h]
theorem ofld_upJ {c b i : Nat} {f g : Nat → Int} {v : Int} (hk : clF c b = 1) : (fun b' => ofld c b' i f (upF g b v)) = upF (fun b' => ofld c b' i f g) b (vl v) := by
  funext b'
  unfold upF
  by_cases h : b' = b
  · subst h
    simp [ofld, hk]
  · simp [ofld, h]
section TR
variable {d M pc : Nat} {ls : ALs} {st : List AV} {mm : AMem} {Q : Option AV → AMem → Prop} {sc : SC} {I J : TI} {t i n : Nat} {p v x y : Int} {off : Int} {z : Nat × Nat × Int}
theorem x_stuck {q : INS} (hf : fetch M pc = some q) (he : ex M pc ls st mm q = none) : ¬ X d M pc ls st mm Q := by
  rintro ⟨k, r, mm', h, -⟩
  cases k with
  | zero => simp [go] at h
  | succ k => simp only [go, hf, he] at h; cases h
/-- a load out of an int row -/
theorem x_iald (hf : fetch M pc = some (.iaload, 1, z)) (hc : ∀ f g, cellF sc t i f g = .inl (0, n, f)) : X d M pc ls (vi p :: vr t i :: st) (MM sc I J) Q ↔ (0 ≤ p ∧ p < (n : Int)) ∧ X d M (pc + 1) ls (vi (I t i p.toNat) :: st) (MM sc I J) Q := by
  have he : ex M pc ls (vi p :: vr t i :: st) (MM sc I J) (.iaload, 1, z) = if 0 ≤ p ∧ p < (n : Int) then some (.inl (pc + 1, ls, vi (I t i p.toNat) :: st, MM sc I J)) else none := by
    show exLd pc ls (vi p :: vr t i :: st) (MM sc I J) = _
    have e1 : (MM sc I J).1 (t, i) = .inl (0, n, I t i) := hc _ _
    simp only [exLd, vi, vr, e1]
    rfl
  by_cases h : 0 ≤ p ∧ p < (n : Int)
  · rw [if_pos h] at he
    rw [x_one hf he]
    simp [h]
  · rw [if_neg h] at he
    simp only [h, false_and, iff_false]
    exact x_stuck hf he
theorem x_sald (hf : fetch M pc = some (.iaload, 1, z)) : X d M pc ls (vi p :: vr 99 i :: st) (MM sc I J) Q ↔ (0 ≤ p ∧ p < (sc.1 : Int)) ∧ X d M (pc + 1) ls (vi (sc.2 p.toNat) :: st) (MM sc I J) Q := by
  have he : ex M pc ls (vi p :: vr 99 i :: st) (MM sc I J) (.iaload, 1, z) = if 0 ≤ p ∧ p < (sc.1 : Int) then some (.inl (pc + 1, ls, vi (sc.2 p.toNat) :: st, MM sc I J)) else none := by
    show exLd pc ls (vi p :: vr 99 i :: st) (MM sc I J) = _
    have e1 : (MM sc I J).1 (99, i) = .inl (4, sc.1, sc.2) := rfl
    simp only [exLd, vi, vr, e1]
    rfl
  by_cases h : 0 ≤ p ∧ p < (sc.1 : Int)
  · rw [if_pos h] at he
    rw [x_one hf he]
    simp [h]
  · rw [if_neg h] at he
    simp only [h, false_and, iff_false]
    exact x_stuck hf he
theorem x_iast (hf : fetch M pc = some (.iastore, 1, z)) (hc : ∀ f g, cellF sc t i f g = .inl (0, n, f)) : X d M pc ls (vi v :: vi p :: vr t i :: st) (MM sc I J) Q ↔ (0 ≤ p ∧ p < (n : Int)) ∧ X d M (pc + 1) ls st (MM sc (upI I t i p.toNat v) J) Q := by
  have he : ex M pc ls (vi v :: vi p :: vr t i :: st) (MM sc I J) (.iastore, 1, z) = if 0 ≤ p ∧ p < (n : Int) then some (.inl (pc + 1, ls, st, MM sc (upI I t i p.toNat v) J)) else none := by
    show exSt pc ls (vi v :: vi p :: vr t i :: st) (MM sc I J) = _
    have e1 : (MM sc I J).1 (t, i) = .inl (0, n, I t i) := hc _ _
    have e2 := mm_up (sc := sc) (I := I) (J := J) (t := t) (i := i) (hc (upF (I t i) p.toNat v) (J t i))
    simp only [exSt, vi, vr, e1]
    unfold upI
    rw [← e2]
    rfl
  by_cases h : 0 ≤ p ∧ p < (n : Int)
  · rw [if_pos h] at he
    rw [x_one hf he]
    simp [h]
  · rw [if_neg h] at he
    simp only [h, false_and, iff_false]
    exact x_stuck hf he
theorem x_zald (hf : fetch M pc = some (.baload, 1, z)) (hc : ∀ f g, cellF sc t i f g = .inl (1, n, f)) : X d M pc ls (vi p :: vr t i :: st) (MM sc I J) Q ↔ (0 ≤ p ∧ p < (n : Int)) ∧ X d M (pc + 1) ls (vi (I t i p.toNat) :: st) (MM sc I J) Q := by
  have he : ex M pc ls (vi p :: vr t i :: st) (MM sc I J) (.baload, 1, z) = if 0 ≤ p ∧ p < (n : Int) then some (.inl (pc + 1, ls, vi (I t i p.toNat) :: st, MM sc I J)) else none := by
    show exLdZ pc ls (vi p :: vr t i :: st) (MM sc I J) = _
    have e1 : (MM sc I J).1 (t, i) = .inl (1, n, I t i) := hc _ _
    simp only [exLdZ, vi, vr, e1]
    rfl
  by_cases h : 0 ≤ p ∧ p < (n : Int)
  · rw [if_pos h] at he
    rw [x_one hf he]
    simp [h]
  · rw [if_neg h] at he
    simp only [h, false_and, iff_false]
    exact x_stuck hf he
theorem x_zast (hf : fetch M pc = some (.bastore, 1, z)) (hv : v = 0 ∨ v = 1) (hc : ∀ f g, cellF sc t i f g = .inl (1, n, f)) : X d M pc ls (vi v :: vi p :: vr t i :: st) (MM sc I J) Q ↔ (0 ≤ p ∧ p < (n : Int)) ∧ X d M (pc + 1) ls st (MM sc (upI I t i p.toNat v) J) Q := by
  have he : ex M pc ls (vi v :: vi p :: vr t i :: st) (MM sc I J) (.bastore, 1, z) = if (v = 0 ∨ v = 1) ∧ 0 ≤ p ∧ p < (n : Int) then some (.inl (pc + 1, ls, st, MM sc (upI I t i p.toNat v) J)) else none := by
    show exStZ pc ls (vi v :: vi p :: vr t i :: st) (MM sc I J) = _
    have e1 : (MM sc I J).1 (t, i) = .inl (1, n, I t i) := hc _ _
    have e2 := mm_up (sc := sc) (I := I) (J := J) (t := t) (i := i) (hc (upF (I t i) p.toNat v) (J t i))
    simp only [exStZ, vi, vr, e1]
    unfold upI
    rw [← e2]
    rfl
  by_cases h : 0 ≤ p ∧ p < (n : Int)
  · rw [if_pos ⟨hv, h⟩] at he
    rw [x_one hf he]
    simp [h]
  · rw [if_neg (fun q => h q.2)] at he
    simp only [h, false_and, iff_false]
    exact x_stuck hf he
theorem x_aald {kd t' o : Nat} (hf : fetch M pc = some (.aaload, 1, z)) (hc : ∀ f g, cellF sc t i f g = .inr (.inl (kd, n, fun j => if j < n then some (t', o + j) else none))) : X d M pc ls (vi p :: vr t i :: st) (MM sc I J) Q ↔ (0 ≤ p ∧ p < (n : Int)) ∧ X d M (pc + 1) ls (vr t' (o + p.toNat) :: st) (MM sc I J) Q := by
  have he : ex M pc ls (vi p :: vr t i :: st) (MM sc I J) (.aaload, 1, z) = if 0 ≤ p ∧ p < (n : Int) then some (.inl (pc + 1, ls, vr t' (o + p.toNat) :: st, MM sc I J)) else none := by
    show exLdA pc ls (vi p :: vr t i :: st) (MM sc I J) = _
    have e1 : (MM sc I J).1 (t, i) = .inr (.inl (kd, n, fun j => if j < n then some (t', o + j) else none)) := hc _ _
    simp only [exLdA, vi, vr, e1]
    by_cases h : 0 ≤ p ∧ p < (n : Int)
    · rw [if_pos h, if_pos h, if_pos (show p.toNat < n by omega)]
      rfl
    · rw [if_neg h, if_neg h]
  by_cases h : 0 ≤ p ∧ p < (n : Int)
  · rw [if_pos h] at he
    rw [x_one hf he]
    simp [h]
  · rw [if_neg h] at he
    simp only [h, false_and, iff_false]
    exact x_stuck hf he
theorem x_aald0 {kd t' : Nat} (hf : fetch M pc = some (.aaload, 1, z)) (hc : ∀ f g, cellF sc t i f g = .inr (.inl (kd, n, fun j => if j < n then some (t', j) else none))) : X d M pc ls (vi p :: vr t i :: st) (MM sc I J) Q ↔ (0 ≤ p ∧ p < (n : Int)) ∧ X d M (pc + 1) ls (vr t' p.toNat :: st) (MM sc I J) Q := by
  have he : ex M pc ls (vi p :: vr t i :: st) (MM sc I J) (.aaload, 1, z) = if 0 ≤ p ∧ p < (n : Int) then some (.inl (pc + 1, ls, vr t' p.toNat :: st, MM sc I J)) else none := by
    show exLdA pc ls (vi p :: vr t i :: st) (MM sc I J) = _
    have e1 : (MM sc I J).1 (t, i) = .inr (.inl (kd, n, fun j => if j < n then some (t', j) else none)) := hc _ _
    simp only [exLdA, vi, vr, e1]
    by_cases h : 0 ≤ p ∧ p < (n : Int)
    · rw [if_pos h, if_pos h, if_pos (show p.toNat < n by omega)]
      rfl
    · rw [if_neg h, if_neg h]
  by_cases h : 0 ≤ p ∧ p < (n : Int)
  · rw [if_pos h] at he
    rw [x_one hf he]
    simp [h]
  · rw [if_neg h] at he
    simp only [h, false_and, iff_false]
    exact x_stuck hf he
theorem x_putI {c b k : Nat} {w : Int} (hf : fetch M pc = some (.putfield k, 3, c, b, w)) (hc : ∀ f g, cellF sc t i f g = .inr (.inr (c, fun b => ofld c b i f g))) (hk : clF c b = 0) (hM : Nat.ble 1 M = true) : X d M pc ls (vi v :: vr t i :: st) (MM sc I J) Q ↔ X d M (pc + 3) ls st (MM sc (upI I t i b v) J) Q := by
  have he : ex M pc ls (vi v :: vr t i :: st) (MM sc I J) (.putfield k, 3, c, b, w) = some (.inl (pc + 3, ls, st, MM sc (upI I t i b v) J)) := by
    show exPut M c b pc ls (vi v :: vr t i :: st) (MM sc I J) = _
    have e1 : (MM sc I J).1 (t, i) = .inr (.inr (c, fun b => ofld c b i (I t i) (J t i))) := hc _ _
    have e3 := hc (upF (I t i) b v) (J t i)
    rw [ofld_upI hk] at e3
    have e2 := mm_up (sc := sc) (I := I) (J := J) (t := t) (i := i) e3
    have e4 : Nat.beq c c = true := Nat.beq_refl c
    simp only [exPut, vi, vr, e1, hk, fitF, hM, e4, Bool.and_self]
    unfold upI
    rw [← e2]
    rfl
  exact x_one hf he
theorem x_putJ {c b k : Nat} {w : Int} (hf : fetch M pc = some (.putfield k, 3, c, b, w)) (hc : ∀ f g, cellF sc t i f g = .inr (.inr (c, fun b => ofld c b i f g))) (hk : clF c b = 1) (hM : Nat.ble 1 M = true) : X d M pc ls (vl v :: vr t i :: st) (MM sc I J) Q ↔ X d M (pc + 3) ls st (MM sc I (upI J t i b v)) Q := by
  have he : ex M pc ls (vl v :: vr t i :: st) (MM sc I J) (.putfield k, 3, c, b, w) = some (.inl (pc + 3, ls, st, MM sc I (upI J t i b v))) := by
    show exPut M c b pc ls (vl v :: vr t i :: st) (MM sc I J) = _
    have e1 : (MM sc I J).1 (t, i) = .inr (.inr (c, fun b => ofld c b i (I t i) (J t i))) := hc _ _
    have e3 := hc (I t i) (upF (J t i) b v)
    rw [ofld_upJ hk] at e3
    have e2 := mm_upJ (sc := sc) (I := I) (J := J) (t := t) (i := i) e3
    have e4 : Nat.beq c c = true := Nat.beq_refl c
    simp only [exPut, vl, vr, e1, hk, fitF, hM, e4, Bool.and_self]
    unfold upI
    rw [← e2]
    rfl
  exact x_one hf he
theorem x_cpy {t0 i0 n0 : Nat} {k : Nat} {sp dp q : Int} {b : Nat} {w : Int} (hf : fetch M pc = some (.invokestatic k, 3, 9999, b, w)) (hc0 : ∀ f g, cellF sc t0 i0 f g = .inl (0, n0, f)) (hc : ∀ f g, cellF sc t i f g = .inl (0, n, f)) (hr : Nat.ble st.length 4 = true) :
    X d M pc ls (vi q :: vi dp :: vr t i :: vi sp :: vr t0 i0 :: st) (MM sc I J) Q ↔ (0 ≤ sp ∧ 0 ≤ dp ∧ 0 ≤ q ∧ sp + q ≤ (n0 : Int) ∧ dp + q ≤ (n : Int)) ∧ X d M (pc + 3) ls st (MM sc (up2 I t i (cpF (I t0 i0) (I t i) sp.toNat dp.toNat q.toNat)) J) Q := by
  have he : ex M pc ls (vi q :: vi dp :: vr t i :: vi sp :: vr t0 i0 :: st) (MM sc I J) (.invokestatic k, 3, 9999, b, w) = if 0 ≤ sp ∧ 0 ≤ dp ∧ 0 ≤ q ∧ sp + q ≤ (n0 : Int) ∧ dp + q ≤ (n : Int) then some (.inl (pc + 3, ls, st, MM sc (up2 I t i (cpF (I t0 i0) (I t i) sp.toNat dp.toNat q.toNat)) J)) else none := by
    show exCpy pc ls (vi q :: vi dp :: vr t i :: vi sp :: vr t0 i0 :: st) (MM sc I J) = _
    have e0 : (MM sc I J).1 (t0, i0) = .inl (0, n0, I t0 i0) := hc0 _ _
    have e1 : (MM sc I J).1 (t, i) = .inl (0, n, I t i) := hc _ _
    have e2 := mm_up (sc := sc) (I := I) (J := J) (t := t) (i := i) (hc (cpF (I t0 i0) (I t i) sp.toNat dp.toNat q.toNat) (J t i))
    have e4 : Nat.beq 0 0 = true := rfl
    simp only [exCpy, vi, vr, e0, e1, hr, e4, Bool.and_self]
    rw [← e2]
    rfl
  by_cases h : 0 ≤ sp ∧ 0 ≤ dp ∧ 0 ≤ q ∧ sp + q ≤ (n0 : Int) ∧ dp + q ≤ (n : Int)
  · rw [if_pos h] at he
    rw [x_one hf he]
    simp [h]
  · rw [if_neg h] at he
    simp only [h, false_and, iff_false]
    exact x_stuck hf he
theorem x_alen {k : Nat} (hf : fetch M pc = some (.arraylength, 1, z)) (hc : ∀ f g, cellF sc t i f g = .inl (k, n, f)) : X d M pc ls (vr t i :: st) (MM sc I J) Q ↔ X d M (pc + 1) ls (vi (n : Int) :: st) (MM sc I J) Q := by
  have he : ex M pc ls (vr t i :: st) (MM sc I J) (.arraylength, 1, z) = some (.inl (pc + 1, ls, vi (n : Int) :: st, MM sc I J)) := by
    show exLen pc ls (vr t i :: st) (MM sc I J) = _
    have e1 : (MM sc I J).1 (t, i) = .inl (k, n, I t i) := hc _ _
    simp only [exLen, vr, e1]
    rfl
  exact x_one hf he
theorem x_alenA {k : Nat} {F : Nat → Option AK} (hf : fetch M pc = some (.arraylength, 1, z)) (hc : ∀ f g, cellF sc t i f g = .inr (.inl (k, n, F))) : X d M pc ls (vr t i :: st) (MM sc I J) Q ↔ X d M (pc + 1) ls (vi (n : Int) :: st) (MM sc I J) Q := by
  have he : ex M pc ls (vr t i :: st) (MM sc I J) (.arraylength, 1, z) = some (.inl (pc + 1, ls, vi (n : Int) :: st, MM sc I J)) := by
    show exLen pc ls (vr t i :: st) (MM sc I J) = _
    have e1 : (MM sc I J).1 (t, i) = .inr (.inl (k, n, F)) := hc _ _
    simp only [exLen, vr, e1]
    rfl
  exact x_one hf he
theorem x_br {q : INS} {c : Prop} [Decidable c] {pt pf : Nat} {st' : List AV} (hf : fetch M pc = some q) (he : ex M pc ls st mm q = some (.inl (bif decide c then pt else pf, ls, st', mm))) : X d M pc ls st mm Q ↔ if c then X d M pt ls st' mm Q else X d M pf ls st' mm Q := by
  rw [x_one hf he]
  by_cases h : c
  · simp [h]
  · simp [h]
theorem x_brn {q : INS} {c : Prop} [Decidable c] {pt pf : Nat} {st' : List AV} (hf : fetch M pc = some q) (he : ex M pc ls st mm q = some (.inl (bif !decide c then pt else pf, ls, st', mm))) : X d M pc ls st mm Q ↔ if c then X d M pf ls st' mm Q else X d M pt ls st' mm Q := by
  rw [x_one hf he]
  by_cases h : c
  · simp [h]
  · simp [h]
theorem x_idiv (hf : fetch M pc = some (.idiv, 1, z)) : X d M pc ls (vi y :: vi x :: st) mm Q ↔ ¬ y = 0 ∧ X d M (pc + 1) ls (vi (w32 (x.tdiv y)) :: st) mm Q := by
  by_cases h : y = 0
  · subst h
    simp only [not_true_eq_false, false_and, iff_false]
    refine x_stuck hf ?_
    show bnD (fun x y => w32 (x.tdiv y)) pc ls (vi 0 :: vi x :: st) mm = none
    simp [bnD, vi]
  · have he : ex M pc ls (vi y :: vi x :: st) mm (.idiv, 1, z) = some (.inl (pc + 1, ls, vi (w32 (x.tdiv y)) :: st, mm)) := by
      show bnD (fun x y => w32 (x.tdiv y)) pc ls (vi y :: vi x :: st) mm = _
      simp [bnD, vi, h, nx]
    rw [x_one hf he]
    simp [h]
theorem x_irem (hf : fetch M pc = some (.irem, 1, z)) : X d M pc ls (vi y :: vi x :: st) mm Q ↔ ¬ y = 0 ∧ X d M (pc + 1) ls (vi (x.tmod y) :: st) mm Q := by
  by_cases h : y = 0
  · subst h
    simp only [not_true_eq_false, false_and, iff_false]
    refine x_stuck hf ?_
    show bnD (fun x y => x.tmod y) pc ls (vi 0 :: vi x :: st) mm = none
    simp [bnD, vi]
  · have he : ex M pc ls (vi y :: vi x :: st) mm (.irem, 1, z) = some (.inl (pc + 1, ls, vi (x.tmod y) :: st, mm)) := by
      show bnD (fun x y => x.tmod y) pc ls (vi y :: vi x :: st) mm = _
      simp [bnD, vi, h, nx]
    rw [x_one hf he]
    simp [h]
theorem x_ldiv (hf : fetch M pc = some (.ldiv, 1, z)) : X d M pc ls (vl y :: vl x :: st) mm Q ↔ ¬ y = 0 ∧ X d M (pc + 1) ls (vl (w64 (x.tdiv y)) :: st) mm Q := by
  by_cases h : y = 0
  · subst h
    simp only [not_true_eq_false, false_and, iff_false]
    refine x_stuck hf ?_
    show bnM (fun x y => w64 (x.tdiv y)) pc ls (vl 0 :: vl x :: st) mm = none
    simp [bnM, vl]
  · have he : ex M pc ls (vl y :: vl x :: st) mm (.ldiv, 1, z) = some (.inl (pc + 1, ls, vl (w64 (x.tdiv y)) :: st, mm)) := by
      show bnM (fun x y => w64 (x.tdiv y)) pc ls (vl y :: vl x :: st) mm = _
      simp [bnM, vl, h, nx]
    rw [x_one hf he]
    simp [h]
theorem x_lrem (hf : fetch M pc = some (.lrem, 1, z)) : X d M pc ls (vl y :: vl x :: st) mm Q ↔ ¬ y = 0 ∧ X d M (pc + 1) ls (vl (x.tmod y) :: st) mm Q := by
  by_cases h : y = 0
  · subst h
    simp only [not_true_eq_false, false_and, iff_false]
    refine x_stuck hf ?_
    show bnM (fun x y => x.tmod y) pc ls (vl 0 :: vl x :: st) mm = none
    simp [bnM, vl]
  · have he : ex M pc ls (vl y :: vl x :: st) mm (.lrem, 1, z) = some (.inl (pc + 1, ls, vl (x.tmod y) :: st, mm)) := by
      show bnM (fun x y => x.tmod y) pc ls (vl y :: vl x :: st) mm = _
      simp [bnM, vl, h, nx]
    rw [x_one hf he]
    simp [h]
theorem x_zret {w : Nat × Int} (hf : fetch M pc = some (.ireturn, 1, 1, w)) : X d M pc ls [vi x] mm Q ↔ (x = 0 ∨ x = 1) ∧ Q (some (vi x)) mm := by
  by_cases h : x = 0 ∨ x = 1
  · have he : ex M pc ls [vi x] mm (.ireturn, 1, 1, w) = some (.inr (.inl (some (vi x)))) := by
      show (if x = 0 ∨ x = 1 then some (Sum.inr (Sum.inl (some (vi x)))) else none : Option ROut) = _
      rw [if_pos h]
    rw [x_ret hf he]
    simp [h]
  · simp only [h, false_and, iff_false]
    refine x_stuck hf ?_
    show (if x = 0 ∨ x = 1 then some (Sum.inr (Sum.inl (some (vi x)))) else none : Option ROut) = none
    rw [if_neg h]
end TR
