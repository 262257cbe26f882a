/-! THE TIE: a run of the abstract machine is a run of the machine -/
def am_cz (ad : Nat → Nat) : am_V → Value
  | .inl x => .int (Int32.ofInt x)
  | .inr (.inl x) => .long (Int64.ofInt x)
  | .inr (.inr r) => va_rf (r.map ad)
def am_ok : am_V → Prop
  | .inl x => rI x
  | .inr (.inl x) => rL x
  | .inr (.inr _) => True
def am_oks : List am_V → Prop
  | [] => True
  | v :: t => am_ok v ∧ am_oks t
def am_okl (lv : am_LV) : Prop := ∀ i v, lvg lv i = some v → am_ok v
def am_fv (ad : Nat → Nat) (σ : am_HS) (i ci k : Nat) : Value := match am_fty ci k with
  | 0 => .int (σ.1 i k)
  | 1 => .int (σ.1 i k)
  | 2 => .long (σ.2.1 i k)
  | _ => va_rf ((σ.2.2 i k).map ad)
def am_ar (ad : Nat → Nat) (σ : am_HS) (i k : Nat) : ((Nat → Int32) ⊕ (Nat → Int64) ⊕ (Nat → UInt32) ⊕ (Nat → UInt64) ⊕ (Nat → Option Nat)) := match k with
  | 3 => .inr (.inl (σ.2.1 i))
  | 4 => .inr (.inr (.inr (.inr (fun j => (σ.2.2 i j).map ad))))
  | 5 => .inr (.inr (.inr (.inr (fun j => (σ.2.2 i j).map ad))))
  | _ => .inl (σ.1 i)
def am_ce (cA : Nat → ClassId) (ad : Nat → Nat) (lay : Nat → Nat ⊕ (Nat × Nat)) (σ : am_HS) (i : Nat) : va_E := match lay i with
  | .inl ci => .inr (ci, (List.range (am_nf ci)).map (am_fv ad σ i ci))
  | .inr q => .inl (cA q.1, q.2, am_ar ad σ i q.1)
def am_wl (cA : Nat → ClassId) (ad : Nat → Nat) (lay : Nat → Nat ⊕ (Nat × Nat)) (n : Nat) (σ : am_HS) : va_W := (List.range n).map (fun i => (ad i, am_ce cA ad lay σ i))
def am_aty : Nat → FieldType
  | 0 => .int
  | 1 => .byte
  | 2 => .boolean
  | 3 => .long
  | 4 => .object RX5
  | _ => .object RX3
def am_tys (cA : Nat → ClassId) : List (ClassId × FieldType) := (List.range 6).map (fun k => (cA k, am_aty k))
def am_kn (ad : Nat → Nat) (lv : am_LV) : List (Nat × Value) := (List.range lv.length).filterMap (fun i => (lvg lv i).map (fun v => (i, am_cz ad v)))
theorem am_cz_cat (ad : Nat → Nat) (v : am_V) : (am_cz ad v).category = am_cat v := by
  rcases v with x | x | x
  · rfl
  · rfl
  · cases x <;> rfl
theorem lvg_lt {lv : am_LV} {i : Nat} {v : am_V} (h : lvg lv i = some v) : i < lv.length := by
  induction lv generalizing i with
  | nil => simp [lvg] at h
  | cons a t ih => cases i with
    | zero => simp
    | succ i => have := ih (i := i) h; simpa using this
theorem am_kn_mem {ad : Nat → Nat} {lv : am_LV} {q : Nat × Value} : q ∈ am_kn ad lv ↔ ∃ v, lvg lv q.1 = some v ∧ q.2 = am_cz ad v := by
  unfold am_kn
  rw [List.mem_filterMap]
  constructor
  · rintro ⟨i, -, h⟩
    cases hv : lvg lv i with
    | none => rw [hv] at h; cases h
    | some v => rw [hv] at h; cases h; exact ⟨v, hv, rfl⟩
  · rintro ⟨v, h, e⟩
    exact ⟨q.1, List.mem_range.mpr (lvg_lt h), by rw [h]; simp [← e]⟩
theorem lst1_len : ∀ (lv : am_LV) (k : Nat) (v : am_V), (lst1 lv k v).length = lv.length
  | [], _, _ => rfl
  | _ :: _, 0, _ => rfl
  | _ :: t, 1, v => by simp [lst1, lst1_len t 0 v]
  | _ :: t, k + 2, v => by simp [lst1, lst1_len t (k + 1) v]
theorem lst2_len : ∀ (lv : am_LV) (k : Nat) (v : am_V), (lst2 lv k v).length = lv.length
  | [], _, _ => rfl
  | _ :: [], 0, _ => rfl
  | _ :: _ :: _, 0, _ => rfl
  | _ :: t, 1, v => by simp [lst2, lst2_len t 0 v]
  | _ :: t, k + 2, v => by simp [lst2, lst2_len t (k + 1) v]
theorem lvg_lst1 : ∀ (lv : am_LV) (k : Nat) (v : am_V) (j : Nat) (u : am_V), lvg (lst1 lv k v) j = some u → (j = k ∧ u = v) ∨ (j ≠ k ∧ lvg lv j = some u ∧ ¬ (j + 1 = k ∧ am_cat u = 2))
  | [], _, _, _, _ => by intro h; simp [lst1, lvg] at h
  | a :: t, 0, v, j, u => by
    intro h
    cases j with
    | zero => left; simp [lst1, lvg] at h; exact ⟨rfl, h.symm⟩
    | succ j => right; exact ⟨by omega, h, by omega⟩
  | a :: t, 1, v, j, u => by
    intro h
    cases j with
    | zero =>
      right
      refine ⟨by omega, ?_, ?_⟩
      · rcases a with _ | x | x | x <;> simp_all [lst1, lvg]
      · rcases a with _ | x | x | x <;> simp_all [lst1, lvg] <;> subst h <;> simp [am_cat]
    | succ j =>
      rcases lvg_lst1 t 0 v j u h with ⟨h1, h2⟩ | ⟨h1, h2, h3⟩
      · left; exact ⟨by omega, h2⟩
      · right; exact ⟨by omega, h2, by omega⟩
  | a :: t, k + 2, v, j, u => by
    intro h
    cases j with
    | zero => right; exact ⟨by omega, h, by omega⟩
    | succ j =>
      rcases lvg_lst1 t (k + 1) v j u h with ⟨h1, h2⟩ | ⟨h1, h2, h3⟩
      · left; exact ⟨by omega, h2⟩
      · right; exact ⟨by omega, h2, fun q => h3 ⟨by omega, q.2⟩⟩
theorem lvg_lst2 : ∀ (lv : am_LV) (k : Nat) (v : am_V) (j : Nat) (u : am_V), lvg (lst2 lv k v) j = some u → (j = k ∧ u = v) ∨ (j ≠ k ∧ j ≠ k + 1 ∧ lvg lv j = some u ∧ ¬ (j + 1 = k ∧ am_cat u = 2))
  | [], _, _, _, _ => by intro h; simp [lst2, lvg] at h
  | [a], 0, v, j, u => by
    intro h
    cases j with
    | zero => left; simp [lst2, lvg] at h; exact ⟨rfl, h.symm⟩
    | succ j => simp [lst2, lvg] at h
  | a :: b :: t, 0, v, j, u => by
    intro h
    cases j with
    | zero => left; simp [lst2, lvg] at h; exact ⟨rfl, h.symm⟩
    | succ j => cases j with
      | zero => simp [lst2, lvg] at h
      | succ j => right; exact ⟨by omega, by omega, h, by omega⟩
  | a :: t, 1, v, j, u => by
    intro h
    cases j with
    | zero =>
      right
      refine ⟨by omega, by omega, ?_, ?_⟩
      · rcases a with _ | x | x | x <;> simp_all [lst2, lvg]
      · rcases a with _ | x | x | x <;> simp_all [lst2, lvg] <;> subst h <;> simp [am_cat]
    | succ j =>
      rcases lvg_lst2 t 0 v j u h with ⟨h1, h2⟩ | ⟨h1, h4, h2, h3⟩
      · left; exact ⟨by omega, h2⟩
      · right; exact ⟨by omega, by omega, h2, by omega⟩
  | a :: t, k + 2, v, j, u => by
    intro h
    cases j with
    | zero => right; exact ⟨by omega, by omega, h, by omega⟩
    | succ j =>
      rcases lvg_lst2 t (k + 1) v j u h with ⟨h1, h2⟩ | ⟨h1, h4, h2, h3⟩
      · left; exact ⟨by omega, h2⟩
      · right; exact ⟨by omega, by omega, h2, fun q => h3 ⟨by omega, q.2⟩⟩
theorem am_okl_1 {lv : am_LV} {k : Nat} {v : am_V} (h : am_okl lv) (hv : am_ok v) : am_okl (lst1 lv k v) := fun j u hu => by
  rcases lvg_lst1 lv k v j u hu with ⟨-, rfl⟩ | ⟨-, h2, -⟩
  · exact hv
  · exact h j u h2
theorem am_okl_2 {lv : am_LV} {k : Nat} {v : am_V} (h : am_okl lv) (hv : am_ok v) : am_okl (lst2 lv k v) := fun j u hu => by
  rcases lvg_lst2 lv k v j u hu with ⟨-, rfl⟩ | ⟨-, -, h2, -⟩
  · exact hv
  · exact h j u h2
theorem am_has_mono {ls : Array Slot} {nL : Nat} {l l' : List (Nat × Value)} (h : lv_has ls nL l) (hl : ∀ q ∈ l', q ∈ l) : lv_has ls nL l' := ⟨h.1, h.2.1, fun q hq => h.2.2 q (hl q hq)⟩
theorem am_has_1 {ad : Nat → Nat} {ls : Array Slot} {nL k : Nat} {lv : am_LV} {v : am_V} (h : lv_has ls nL ((k, am_cz ad v) :: (am_kn ad lv).filter (fun q => !(q.1 == k) && !(q.1 + 1 == k && q.2.category == 2)))) : lv_has ls nL (am_kn ad (lst1 lv k v)) := by
  refine am_has_mono h fun q hq => ?_
  obtain ⟨u, h1, h2⟩ := am_kn_mem.mp hq
  rcases lvg_lst1 lv k v q.1 u h1 with ⟨e1, rfl⟩ | ⟨e1, e2, e3⟩
  · exact List.mem_cons.mpr (Or.inl (Prod.ext e1 h2))
  · refine List.mem_cons_of_mem _ (List.mem_filter.mpr ⟨am_kn_mem.mpr ⟨u, e2, h2⟩, ?_⟩)
    rw [h2, am_cz_cat]
    have e4 : ¬ (q.1 + 1 = k ∧ am_cat u = 2) := e3
    simp only [Bool.and_eq_true, Bool.not_eq_true', beq_eq_false_iff_ne, ne_eq, Bool.and_eq_false_iff]
    refine ⟨e1, ?_⟩
    by_cases e5 : q.1 + 1 = k
    · right; exact fun e6 => e4 ⟨e5, e6⟩
    · left; exact e5
theorem am_has_2 {ad : Nat → Nat} {ls : Array Slot} {nL k : Nat} {lv : am_LV} {v : am_V} (h : lv_has ls nL ((k, am_cz ad v) :: (am_kn ad lv).filter (fun q => !(q.1 == k) && (!(q.1 == k + 1) && !(q.1 + 1 == k && q.2.category == 2))))) : lv_has ls nL (am_kn ad (lst2 lv k v)) := by
  refine am_has_mono h fun q hq => ?_
  obtain ⟨u, h1, h2⟩ := am_kn_mem.mp hq
  rcases lvg_lst2 lv k v q.1 u h1 with ⟨e1, rfl⟩ | ⟨e1, e7, e2, e3⟩
  · exact List.mem_cons.mpr (Or.inl (Prod.ext e1 h2))
  · refine List.mem_cons_of_mem _ (List.mem_filter.mpr ⟨am_kn_mem.mpr ⟨u, e2, h2⟩, ?_⟩)
    rw [h2, am_cz_cat]
    have e4 : ¬ (q.1 + 1 = k ∧ am_cat u = 2) := e3
    simp only [Bool.and_eq_true, Bool.not_eq_true', beq_eq_false_iff_ne, ne_eq, Bool.and_eq_false_iff]
    refine ⟨e1, e7, ?_⟩
    by_cases e5 : q.1 + 1 = k
    · right; exact fun e6 => e4 ⟨e5, e6⟩
    · left; exact e5
theorem am_loc {ad : Nat → Nat} {ls : Array Slot} {nL k : Nat} {lv : am_LV} {v : am_V} (h : lv_has ls nL (am_kn ad lv)) (hk : lvg lv k = some v) : ls[k]? = some (.val (am_cz ad v)) := h.2.2 (k, am_cz ad v) (am_kn_mem.mpr ⟨v, hk, rfl⟩)
theorem am_wl_at {cA : Nat → ClassId} {ad : Nat → Nat} {lay : Nat → Nat ⊕ (Nat × Nat)} {n : Nat} {σ : am_HS} {o : Nat} (h : o < n) : (am_wl cA ad lay n σ)[o]? = some (ad o, am_ce cA ad lay σ o) := by simp [am_wl, h]
theorem am_wl_set {cA : Nat → ClassId} {ad : Nat → Nat} {lay : Nat → Nat ⊕ (Nat × Nat)} {n : Nat} {σ σ2 : am_HS} {o : Nat} {z : va_E} (hz : am_ce cA ad lay σ2 o = z) (ho : ∀ i, i ≠ o → am_ce cA ad lay σ2 i = am_ce cA ad lay σ i) : (am_wl cA ad lay n σ).set o (ad o, z) = am_wl cA ad lay n σ2 := by
  apply List.ext_getElem?
  intro i
  rw [List.getElem?_set]
  by_cases h : o = i
  · subst h
    by_cases hn : o < n
    · rw [if_pos rfl, if_pos (by simpa [am_wl] using hn), am_wl_at hn, hz]
    · rw [if_pos rfl, if_neg (by simpa [am_wl] using hn)]
      simp [am_wl, hn]
  · rw [if_neg h]
    by_cases hn : i < n
    · rw [am_wl_at hn, am_wl_at hn, ho i (fun q => h q.symm)]
    · simp [am_wl, hn]
theorem am_rg_set {f g : Nat → Value} {n k : Nat} {v : Value} (h1 : g k = v) (h2 : ∀ j, j ≠ k → g j = f j) : ((List.range n).map f).set k v = (List.range n).map g := by
  apply List.ext_getElem?
  intro i
  rw [List.getElem?_set]
  by_cases h : k = i
  · subst h
    by_cases hn : k < n
    · simp [hn, h1]
    · simp [hn]
  · rw [if_neg h]
    by_cases hn : i < n
    · simp [hn, h2 i (fun q => h q.symm)]
    · simp [hn]
theorem am_ce_o {cA : Nat → ClassId} {ad : Nat → Nat} {lay : Nat → Nat ⊕ (Nat × Nat)} {σ : am_HS} {o ci : Nat} (h : lay o = .inl ci) : am_ce cA ad lay σ o = .inr (ci, (List.range (am_nf ci)).map (am_fv ad σ o ci)) := by simp [am_ce, h]
theorem am_ce_a {cA : Nat → ClassId} {ad : Nat → Nat} {lay : Nat → Nat ⊕ (Nat × Nat)} {σ : am_HS} {o k N : Nat} (h : lay o = .inr (k, N)) : am_ce cA ad lay σ o = .inl (cA k, N, am_ar ad σ o k) := by simp [am_ce, h]
theorem am_ce_uI {cA : Nat → ClassId} {ad : Nat → Nat} {lay : Nat → Nat ⊕ (Nat × Nat)} {σ : am_HS} {o k i : Nat} {x : Int} (h : i ≠ o) : am_ce cA ad lay (uI σ o k x) i = am_ce cA ad lay σ i := by
  have e : ∀ j, (uI σ o k x).1 i j = σ.1 i j := fun j => by simp [uI, h]
  have e1 : (uI σ o k x).1 i = σ.1 i := funext e
  have e2 : (uI σ o k x).2 = σ.2 := rfl
  unfold am_ce
  cases lay i with
  | inl ci => simp only [Sum.inr.injEq, Prod.mk.injEq, true_and]; exact List.map_congr_left fun j _ => by unfold am_fv; rw [e1, e2]
  | inr q => simp only [Sum.inl.injEq, Prod.mk.injEq, true_and]; unfold am_ar; rw [e1, e2]
theorem am_ce_uL {cA : Nat → ClassId} {ad : Nat → Nat} {lay : Nat → Nat ⊕ (Nat × Nat)} {σ : am_HS} {o k i : Nat} {x : Int} (h : i ≠ o) : am_ce cA ad lay (uL σ o k x) i = am_ce cA ad lay σ i := by
  have e : ∀ j, (uL σ o k x).2.1 i j = σ.2.1 i j := fun j => by simp [uL, h]
  have e1 : (uL σ o k x).2.1 i = σ.2.1 i := funext e
  have e2 : (uL σ o k x).1 = σ.1 := rfl
  have e3 : (uL σ o k x).2.2 = σ.2.2 := rfl
  unfold am_ce
  cases lay i with
  | inl ci => simp only [Sum.inr.injEq, Prod.mk.injEq, true_and]; exact List.map_congr_left fun j _ => by unfold am_fv; rw [e1, e2, e3]
  | inr q => simp only [Sum.inl.injEq, Prod.mk.injEq, true_and]; unfold am_ar; rw [e1, e2, e3]
theorem am_ce_uR {cA : Nat → ClassId} {ad : Nat → Nat} {lay : Nat → Nat ⊕ (Nat × Nat)} {σ : am_HS} {o k i : Nat} {x : Option Nat} (h : i ≠ o) : am_ce cA ad lay (uR σ o k x) i = am_ce cA ad lay σ i := by
  have e : ∀ j, (uR σ o k x).2.2 i j = σ.2.2 i j := fun j => by simp [uR, h]
  have e1 : (uR σ o k x).2.2 i = σ.2.2 i := funext e
  have e2 : (uR σ o k x).1 = σ.1 := rfl
  have e3 : (uR σ o k x).2.1 = σ.2.1 := rfl
  unfold am_ce
  cases lay i with
  | inl ci => simp only [Sum.inr.injEq, Prod.mk.injEq, true_and]; exact List.map_congr_left fun j _ => by unfold am_fv; rw [e1, e2, e3]
  | inr q => simp only [Sum.inl.injEq, Prod.mk.injEq, true_and]; unfold am_ar; rw [e1, e2, e3]
theorem ap1_e {st : List am_V} {f : Int → List am_V → Prop} (h : ap1 st f) : ∃ x r, st = .inl x :: r ∧ f x r := by
  unfold ap1 at h
  split at h
  · exact ⟨_, _, rfl, h⟩
  · exact h.elim
theorem ap2_e {st : List am_V} {f : Int → Int → List am_V → Prop} (h : ap2 st f) : ∃ x y r, st = .inl y :: .inl x :: r ∧ f x y r := by
  unfold ap2 at h
  split at h
  · exact ⟨_, _, _, rfl, h⟩
  · exact h.elim
theorem aq1_e {st : List am_V} {f : Int → List am_V → Prop} (h : aq1 st f) : ∃ x r, st = .inr (.inl x) :: r ∧ f x r := by
  unfold aq1 at h
  split at h
  · exact ⟨_, _, rfl, h⟩
  · exact h.elim
theorem aq2_e {st : List am_V} {f : Int → Int → List am_V → Prop} (h : aq2 st f) : ∃ x y r, st = .inr (.inl y) :: .inr (.inl x) :: r ∧ f x y r := by
  unfold aq2 at h
  split at h
  · exact ⟨_, _, _, rfl, h⟩
  · exact h.elim
theorem aqi_e {st : List am_V} {f : Int → Int → List am_V → Prop} (h : aqi st f) : ∃ x y r, st = .inl y :: .inr (.inl x) :: r ∧ f x y r := by
  unfold aqi at h
  split at h
  · exact ⟨_, _, _, rfl, h⟩
  · exact h.elim
theorem ar1_e {st : List am_V} {f : Option Nat → List am_V → Prop} (h : ar1 st f) : ∃ x r, st = .inr (.inr x) :: r ∧ f x r := by
  unfold ar1 at h
  split at h
  · exact ⟨_, _, rfl, h⟩
  · exact h.elim
theorem aix_e {lay : Nat → Nat ⊕ (Nat × Nat)} {st : List am_V} {k : Nat} {f : Nat → Nat → List am_V → Prop} (h : aix lay st k f) : ∃ i o r N, st = .inl i :: .inr (.inr (some o)) :: r ∧ lay o = .inr (k, N) ∧ 0 ≤ i ∧ i < (N : Int) ∧ f o i.toNat r := by
  unfold aix at h
  split at h
  · obtain ⟨N, h⟩ := h
    exact ⟨_, _, _, N, rfl, h⟩
  · exact h.elim
theorem ij_r {x : Int} (h : rI x) : (Int32.ofInt x).toInt = x := wI_e h
theorem lj_r {x : Int} (h : rL x) : (Int64.ofInt x).toInt = x := wL_e h
theorem ij_lt {x y : Int} (hx : rI x) (hy : rI y) : Int32.ofInt x < Int32.ofInt y ↔ x < y := by rw [Int32.lt_iff_toInt_lt, ij_r hx, ij_r hy]
theorem ij_le {x y : Int} (hx : rI x) (hy : rI y) : Int32.ofInt x ≤ Int32.ofInt y ↔ x ≤ y := by rw [Int32.le_iff_toInt_le, ij_r hx, ij_r hy]
theorem ij_eq {x y : Int} (hx : rI x) (hy : rI y) : Int32.ofInt x = Int32.ofInt y ↔ x = y := by rw [← Int32.toInt_inj, ij_r hx, ij_r hy]
theorem ij_0 : (0 : Int32) = Int32.ofInt 0 := rfl
theorem r_0 : rI 0 := ⟨by decide, by decide⟩
theorem lj_lt {x y : Int} (hx : rL x) (hy : rL y) : Int64.ofInt x < Int64.ofInt y ↔ x < y := by rw [Int64.lt_iff_toInt_lt, lj_r hx, lj_r hy]
theorem lj_eq {x y : Int} (hx : rL x) (hy : rL y) : Int64.ofInt x = Int64.ofInt y ↔ x = y := by rw [← Int64.toInt_inj, lj_r hx, lj_r hy]
theorem ij_w (x : Int) : Int32.ofInt (wI x) = Int32.ofInt x := Int32.ofInt_toInt _
theorem lj_w (x : Int) : Int64.ofInt (wL x) = Int64.ofInt x := Int64.ofInt_toInt _
theorem ij_t (x : Int32) : Int32.ofInt x.toInt = x := Int32.ofInt_toInt _
theorem lj_t (x : Int64) : Int64.ofInt x.toInt = x := Int64.ofInt_toInt _
theorem i_tr (x : Int32) : rI x.toInt := ⟨by have := Int32.le_toInt x; omega, by have := Int32.toInt_lt x; omega⟩
theorem l_tr (x : Int64) : rL x.toInt := ⟨by have := Int64.le_toInt x; omega, by have := Int64.toInt_lt x; omega⟩
theorem ij_in {i : Int} {N : Nat} (h0 : 0 ≤ i) (h1 : i < (N : Int)) (hr : rI i) : vp_in (Int32.ofInt i) N ∧ (Int32.ofInt i).toNatClampNeg = i.toNat := by
  have e : (Int32.ofInt i).toNatClampNeg = i.toNat := by
    show (Int32.ofInt i).toInt.toNat = i.toNat
    rw [ij_r hr]
  refine ⟨?_, e⟩
  unfold vp_in
  rw [e, ij_0, ij_lt hr r_0]
  omega
