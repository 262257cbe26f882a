section
/-! MAKING OBJECTS: cells and their names as lists -/
def lyL (L : List (Nat ⊕ (Nat × Nat))) : Nat → Nat ⊕ (Nat × Nat) := fun o => L.getD o (.inr (99, 0))
theorem lyL_ok (L : List (Nat ⊕ (Nat × Nat))) {n : Nat} (h : L.length = n) : am_lyok (lyL L) n := by
  intro o ho
  unfold lyL
  rw [List.getD_eq_getElem?_getD, List.getElem?_eq_none (by omega)]
  rfl
def rkO : List (Nat × List (Option Nat)) → Nat → List (Option Nat)
  | [], _ => []
  | (a, L) :: t, o => if o = a then L else rkO t o
def rkT (T : List (Nat × List (Option Nat))) : Nat → Nat → Option Nat := fun o k => (rkO T o).getD k none
def rk_row (o : Nat) (L : List (Option Nat)) : List (Nat × Nat × Nat) := (List.range L.length).filterMap (fun k => (L.getD k none).map (fun x => (o, k, x)))
def rk_all : List (Nat × List (Option Nat)) → List (Nat × Nat × Nat)
  | [] => []
  | (a, L) :: t => rk_row a L ++ rk_all t
theorem rk_mem {T : List (Nat × List (Option Nat))} {o k x : Nat} (h : rkT T o k = some x) : (o, k, x) ∈ rk_all T := by
  induction T with
  | nil =>
    have h : ([] : List (Option Nat)).getD k none = some x := h
    simp at h
  | cons q t ih =>
    obtain ⟨a, L⟩ := q
    have h : (if o = a then L else rkO t o).getD k none = some x := h
    by_cases e : o = a
    · rw [if_pos e] at h
      refine List.mem_append.mpr (Or.inl (List.mem_filterMap.mpr ⟨k, List.mem_range.mpr ?_, by rw [h, e]; rfl⟩))
      rcases Nat.lt_or_ge k L.length with y | y
      · exact y
      · rw [List.getD_eq_getElem?_getD, List.getElem?_eq_none y] at h
        cases h
    · rw [if_neg e] at h
      exact List.mem_append.mpr (Or.inr (ih h))
theorem rkT_u {T : List (Nat × List (Option Nat))} {o n k : Nat} (h : (rk_all T).all (fun q => q.2.2 != n || (q.1 == o && q.2.1 == k)) = true) : ∀ o' k', rkT T o' k' = some n → o' = o ∧ k' = k := by
  intro o' k' h1
  have := List.all_eq_true.mp h _ (rk_mem h1)
  simpa using this
theorem rkT_lt {T : List (Nat × List (Option Nat))} {n : Nat} (h : (rk_all T).all (fun q => decide (q.2.2 < n)) = true) : ∀ o k x, rkT T o k = some x → x < n := by
  intro o k x h1
  exact of_decide_eq_true (List.all_eq_true.mp h _ (rk_mem h1))
theorem rkT_1 {T : List (Nat × List (Option Nat))} (h : (rk_all T).all (fun q => decide (1 ≤ q.2.2)) = true) : ck (fun _ _ => 0) (rkT T) 1 = z0 := by
  refine Prod.ext rfl (Prod.ext rfl (funext fun o => funext fun k => ?_))
  show (match rkT T o k with | some x => if x < 1 then some x else none | none => none) = none
  cases hz : rkT T o k with
  | none => rfl
  | some x =>
    have := of_decide_eq_true (List.all_eq_true.mp h _ (rk_mem hz))
    show (if x < 1 then some x else none) = none
    rw [if_neg]
    have t : 1 ≤ x := this
    omega
theorem ck_all {I : Nat → Nat → Int32} {RK : Nat → Nat → Option Nat} {n : Nat} (h : ∀ o k x, RK o k = some x → x < n) : (ck I RK n).2.2 = RK := by
  funext o k
  show (match RK o k with | some x => if x < n then some x else none | none => none) = RK o k
  cases hz : RK o k with
  | none => rfl
  | some x => exact if_pos (h o k x hz)
/-- made up to n, but one name is not yet put -/
def cx (I : Nat → Nat → Int32) (RK : Nat → Nat → Option Nat) (n oo kk : Nat) : am_HS := (I, fun _ _ => 0, fun o k => if o = oo ∧ k = kk then none else (ck I RK n).2.2 o k)
theorem cx_l {I : Nat → Nat → Int32} {RK : Nat → Nat → Option Nat} {n m oo kk : Nat} (h : RK oo kk = some n) (hu : ∀ o k x, o < n → RK o k = some x → n ≤ x → x < n + m → o = oo ∧ k = kk) : ∀ o, o < n → (cx I RK (n + m) oo kk).1 o = (ck I RK n).1 o ∧ (cx I RK (n + m) oo kk).2.1 o = (ck I RK n).2.1 o ∧ (cx I RK (n + m) oo kk).2.2 o = (ck I RK n).2.2 o := by
  intro o ho
  refine ⟨rfl, rfl, funext fun k => ?_⟩
  show (if o = oo ∧ k = kk then none else match RK o k with | some x => if x < n + m then some x else none | none => none) = match RK o k with | some x => if x < n then some x else none | none => none
  by_cases z : o = oo ∧ k = kk
  · rw [if_pos z, z.1, z.2, h]
    exact (if_neg (Nat.lt_irrefl n)).symm
  · rw [if_neg z]
    cases hz : RK o k with
    | none => rfl
    | some x =>
      show (if x < n + m then some x else none) = if x < n then some x else none
      by_cases y : x < n
      · rw [if_pos y, if_pos (by omega)]
      · rw [if_neg y]
        by_cases y2 : x < n + m
        · exact absurd (hu o k x ho hz (by omega) y2) z
        · rw [if_neg y2]
theorem cx_r {I : Nat → Nat → Int32} {RK RR : Nat → Nat → Option Nat} {n m oo kk : Nat} {lay layR : Nat → Nat ⊕ (Nat × Nat)} {σR : am_HS} (ho : oo < n) (hl : ∀ i, i < m → lay (n + i) = layR i) (hI : ∀ i, i < m → I (n + i) = σR.1 i) (h2 : σR.2.1 = fun _ _ => 0) (h3 : σR.2.2 = RR) (hr : ∀ i, i < m → ∀ j, RK (n + i) j = (RR i j).map (fun x => n + x)) (hlt : ∀ i j x, RR i j = some x → x < m) : ∀ i, i < m → lay (n + i) = layR i ∧ (cx I RK (n + m) oo kk).1 (n + i) = σR.1 i ∧ (cx I RK (n + m) oo kk).2.1 (n + i) = σR.2.1 i ∧ ∀ j, (cx I RK (n + m) oo kk).2.2 (n + i) j = (σR.2.2 i j).map (fun x => n + x) := by
  intro i hi
  refine ⟨hl i hi, hI i hi, by rw [h2]; rfl, fun j => ?_⟩
  rw [h3]
  show (if n + i = oo ∧ j = kk then none else match RK (n + i) j with | some x => if x < n + m then some x else none | none => none) = _
  rw [if_neg (by omega), hr i hi j]
  cases hz : RR i j with
  | none => rfl
  | some x =>
    have := hlt i j x hz
    show (if n + x < n + m then some (n + x) else none) = some (n + x)
    rw [if_pos (by omega)]
theorem cx_s {I : Nat → Nat → Int32} {RK : Nat → Nat → Option Nat} {n m oo kk : Nat} (h : RK oo kk = some n) (hm : 0 < m) : uR (cx I RK (n + m) oo kk) oo kk (some n) = ck I RK (n + m) := by
  refine Prod.ext rfl (Prod.ext rfl (funext fun o => funext fun k => ?_))
  show (if o = oo ∧ k = kk then some n else if o = oo ∧ k = kk then none else (ck I RK (n + m)).2.2 o k) = (ck I RK (n + m)).2.2 o k
  by_cases z : o = oo ∧ k = kk
  · rw [if_pos z, z.1, z.2]
    show some n = match RK oo kk with | some x => if x < n + m then some x else none | none => none
    rw [h]
    exact (if_pos (by omega)).symm
  · rw [if_neg z, if_neg z]
theorem rk_tr {T TR : List (Nat × List (Option Nat))} {n i : Nat} (h : rkO T (n + i) = (rkO TR i).map (Option.map (fun x => n + x))) : ∀ j, rkT T (n + i) j = (rkT TR i j).map (fun x => n + x) := by
  intro j
  unfold rkT
  rw [h, List.getD_eq_getElem?_getD, List.getD_eq_getElem?_getD, List.getElem?_map]
  cases (rkO TR i)[j]? with
  | none => rfl
  | some y => rfl
theorem rk_tu {T : List (Nat × List (Option Nat))} {n m oo kk : Nat} (h : (rk_all T).all (fun q => decide (n ≤ q.1) || (decide (q.2.2 < n) || (decide (n + m ≤ q.2.2) || (q.1 == oo && q.2.1 == kk)))) = true) : ∀ o k x, o < n → rkT T o k = some x → n ≤ x → x < n + m → o = oo ∧ k = kk := by
  intro o k x h1 h2 h3 h4
  have := List.all_eq_true.mp h _ (rk_mem h2)
  simp only [Bool.or_eq_true, Bool.and_eq_true, decide_eq_true_eq, beq_iff_eq] at this
  omega
end
