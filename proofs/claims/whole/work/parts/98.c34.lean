/-! VALUES: sums and products part by part -/
def ceL (l : List (Vl × Bool)) : List CE := l.map (fun c => (c.1, if c.2 = true then 1 else 0, if c.2 = true then 0 else 2))
theorem cmbL_ce (op num : Int) (l : List (NDn × Bool)) (env : Int → Vl) : cmbL op num l env = comb op num (ceL (l.map (fun c => (c.1 env, c.2)))) := by
  unfold cmbL ceL
  rw [List.map_map]
  rfl
theorem ceL_snoc (l : List (Vl × Bool)) (c : Vl × Bool) : ceL (l ++ [c]) = ceL l ++ [(c.1, if c.2 = true then 1 else 0, if c.2 = true then 0 else 2)] := by
  unfold ceL
  rw [List.map_append]
  rfl
theorem sumF_snoc (neg : Bool) (a : Vl) (l : List CE) (c : CE) : sumF neg a (l ++ [c]) = sumS1 neg (sumF neg a l) c := by
  unfold sumF
  rw [List.foldl_append]
  rfl
theorem prodF_snoc (a : Vl) (l : List CE) (c : CE) : prodF a (l ++ [c]) = prodS1 (prodF a l) c := by
  unfold prodF
  rw [List.foldl_append]
  rfl
theorem sumF_nO2 (neg : Bool) : ∀ (l : List CE) (a : Vl), a ≠ vO → sumF neg a l ≠ vO
  | [], _, h => h
  | c :: t, a, h => by
    refine sumF_nO2 neg t (sumS1 neg a c) ?_
    unfold sumS1
    split
    · exact addV_nO h
    · exact h
theorem prodF_nO2 : ∀ (l : List CE) (a : Vl), a ≠ vO → prodF a l ≠ vO
  | [], _, h => h
  | c :: t, a, h => by
    refine prodF_nO2 t (prodS1 a c) ?_
    unfold prodS1
    split
    · split
      · unfold divV
        split
        · exact nrm_nO _ _
        · exact h
      · unfold mulV
        split
        · exact nrm_nO _ _
        · exact h
    · exact h
theorem sumF_allO (neg : Bool) : ∀ (l : List CE) (a : Vl), l.all (fun c => isO c.1) = true → sumF neg a l = a
  | [], _, _ => rfl
  | (v, x) :: t, a, h => by
    rw [List.all_cons, Bool.and_eq_true] at h
    rcases v with _ | _ | q
    · exact sumF_allO neg t a h.2
    · cases h.1
    · cases h.1
theorem addV_0 {u d : Int} (h : vok (vN u d)) : addV (vN 0 1) u d = vN u d := by
  show nrm (0 * d + u * 1) (1 * d) = vN u d
  rw [Int.zero_mul, Int.zero_add, Int.mul_one, Int.one_mul]
  exact nrm_same h
theorem mulV_1 {u d : Int} (h : vok (vN u d)) : mulV (vN 1 1) u d = vN u d := by
  show nrm (1 * u) (1 * d) = vN u d
  rw [Int.one_mul, Int.one_mul]
  exact nrm_same h
theorem comb2 (cs : List CE) : comb 2 0 cs = if cs.any (fun c => isX c.1) = true then vX else if cs.all (fun c => isO c.1) = true then vO else sumF true (vN 0 1) cs := by
  unfold comb
  by_cases h : cs.any (fun c => isX c.1) = true
  · rw [if_pos h, if_pos h]
  · rw [if_neg h, if_neg h]
    by_cases h2 : cs.all (fun c => isO c.1) = true
    · rw [if_pos (Or.inl h2), if_pos h2]
    · rw [if_neg (fun z => z.elim h2 (fun w => absurd w.1 (by decide))), if_neg h2, if_pos rfl]
theorem comb2_snoc {l : List (Vl × Bool)} {y : Vl} {mi : Bool} (hy : vok y) : comb 2 0 (ceL (l ++ [(y, mi)])) = plV (comb 2 0 (ceL l)) (if mi = true then ngV y else y) := by
  rw [ceL_snoc, comb2, comb2, List.any_append, List.all_append, sumF_snoc]
  have hn := sumF_nO2 true (ceL l) (vN 0 1) (by simp)
  have ha := sumF_allO true (ceL l) (vN 0 1)
  generalize sumF true (vN 0 1) (ceL l) = a at hn ha ⊢
  cases hX : (ceL l).any (fun c => isX c.1)
  · cases hO : (ceL l).all (fun c => isO c.1)
    · rcases y with _ | _ | q
      · cases mi <;> rcases a with _ | _ | p <;> first | rfl | exact absurd rfl hn
      · cases mi <;> rcases a with _ | _ | p <;> first | rfl | exact absurd rfl hn
      · cases mi <;> rcases a with _ | _ | p <;> first | rfl | exact absurd rfl hn
    · have ha2 := ha hO
      subst ha2
      rcases y with _ | _ | q
      · cases mi <;> rfl
      · cases mi <;> rfl
      · cases mi
        · exact addV_0 hy
        · exact addV_0 (ngV_ok hy)
  · rcases y with _ | _ | q
    · cases mi <;> rfl
    · cases mi <;> rfl
    · cases mi <;> rfl
theorem comb2_one {y : Vl} (hy : vok y) : comb 2 0 (ceL [(y, false)]) = y := by
  rcases y with _ | _ | q
  · rfl
  · rfl
  · exact addV_0 hy
/-- a product under way -/
def prW (l : List (Vl × Bool)) : WV := if (ceL l).any (fun c => isX c.1) = true then some vX else if (ceL l).any (fun c => isO c.1) = true then some vO else otw (prodF (vN 1 1) (ceL l))
theorem otw_num {v : Vl} {p : Int × Int} (h : v = some (some p)) : otw v = some (some (some p)) := by subst h; rfl
theorem prW_end (l : List (Vl × Bool)) (hl : l ≠ []) : enW (prW l) = comb 3 0 (ceL l) := by
  unfold prW comb
  by_cases h : (ceL l).any (fun c => isX c.1) = true
  · rw [if_pos h, if_pos h]; rfl
  · rw [if_neg h, if_neg h]
    by_cases h2 : (ceL l).any (fun c => isO c.1) = true
    · rw [if_pos h2, if_pos (Or.inr ⟨rfl, h2⟩)]; rfl
    · have h3 : ¬ (ceL l).all (fun c => isO c.1) = true := fun z => by
        rcases l with _ | ⟨c, t⟩
        · exact hl rfl
        · apply h2
          unfold ceL at z ⊢
          rw [List.map_cons, List.all_cons, Bool.and_eq_true] at z
          rw [List.map_cons, List.any_cons, z.1]
          rfl
      rw [if_neg h2, if_neg (fun z => z.elim h3 (fun w => h2 w.2)), if_neg (by decide), if_pos rfl]
      generalize prodF (vN 1 1) (ceL l) = v
      rcases v with _ | _ | p <;> rfl
theorem prW_one {y : Vl} (hy : vok y) : prW [(y, false)] = some y := by
  rcases y with _ | _ | q
  · rfl
  · rfl
  · exact congrArg otw (mulV_1 hy)
theorem prW_mul {l : List (Vl × Bool)} {y : Vl} : prW (l ++ [(y, false)]) = tmW (prW l) y := by
  unfold prW
  rw [ceL_snoc, List.any_append, List.any_append, prodF_snoc]
  have hn := prodF_nO2 (ceL l) (vN 1 1) (by simp)
  generalize prodF (vN 1 1) (ceL l) = a at hn ⊢
  cases hX : (ceL l).any (fun c => isX c.1)
  · cases hO : (ceL l).any (fun c => isO c.1)
    · rcases y with _ | _ | q
      · rcases a with _ | _ | p
        · exact absurd rfl hn
        · rfl
        · rfl
      · rfl
      · rcases a with _ | _ | p
        · exact absurd rfl hn
        · rfl
        · rfl
    · rcases y with _ | _ | q <;> rfl
  · rcases y with _ | _ | q <;> rfl
theorem prW_div {l : List (Vl × Bool)} {n : Int} : prW (l ++ [(vN n 1, true)]) = ovW (prW l) n := by
  unfold prW
  rw [ceL_snoc, List.any_append, List.any_append, prodF_snoc]
  have hn := prodF_nO2 (ceL l) (vN 1 1) (by simp)
  generalize prodF (vN 1 1) (ceL l) = a at hn ⊢
  cases hX : (ceL l).any (fun c => isX c.1)
  · cases hO : (ceL l).any (fun c => isO c.1)
    · rcases a with _ | _ | p
      · exact absurd rfl hn
      · rfl
      · rfl
    · rfl
  · rfl
