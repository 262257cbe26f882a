/-! THE SPECIFICATION: a rule's meaning -/
abbrev Den : Type := (Nat → Vl) → Vl
def isX (v : Vl) : Bool := match v with
  | some none => true
  | _ => false
def isO (v : Vl) : Bool := match v with
  | none => true
  | _ => false
def comb (op num : Int) (cs : List CE) : Vl :=
  if cs.any (fun c => isX c.1) = true then vX
  else if cs.all (fun c => isO c.1) = true ∨ (op = 3 ∧ cs.any (fun c => isO c.1) = true) then vO
  else if op = 2 then sumF true (vN 0 1) cs
  else if op = 3 then prodF (vN 1 1) cs
  else if op = 9 ∨ op = 10 then (match cs with | [] => vO | c :: _ => capV op num c.1)
  else if op = 6 then divV (sumF false (vN 0 1) cs) ((nums (cs.map (fun c => c.1))).length : Int)
  else pickV op num (nums (cs.map (fun c => c.1)))
theorem addV_ok2 {acc v : Vl} {q : Int × Int} (h : vok acc) (hv : vok v) (e : v = some (some q)) (x : Int) : vok (addV acc x q.2) := addV_ok h (by subst e; exact (vokN (U := q.1) (W := q.2) hv).2.1)
theorem sumF_ok (neg : Bool) : ∀ (l : List CE) (acc : Vl), vok acc → (∀ c ∈ l, vok c.1) → vok (sumF neg acc l)
  | [], acc, h, _ => h
  | c :: t, acc, h, hl => by
    refine sumF_ok neg t (sumS1 neg acc c) ?_ (fun a ha => hl a (by simp [ha]))
    unfold sumS1
    split
    · rename_i q e
      exact addV_ok2 h (hl c (by simp)) e _
    · exact h
theorem prodF_ok : ∀ (l : List CE) (acc : Vl), vok acc → (∀ c ∈ l, vok c.1 ∧ (c.2.1 ≠ 0 → c.2.2 = 0 → ∃ u, c.1 = vN u 1 ∧ 1 ≤ u)) → vok (prodF acc l)
  | [], acc, h, _ => h
  | c :: t, acc, h, hl => by
    refine prodF_ok t (prodS1 acc c) ?_ (fun a ha => hl a (by simp [ha]))
    obtain ⟨h1, h2⟩ := hl c (by simp)
    unfold prodS1
    split
    · rename_i q e
      split
      · rename_i h3
        obtain ⟨u, e2, h4⟩ := h2 h3.1 h3.2
        rw [e] at e2
        cases e2
        unfold divV
        split
        · rename_i p
          refine nrm_ok ?_
          have h5 := (vokN (U := p.1) (W := p.2) h).2.1
          have h3 := Int.mul_le_mul h5 h4 (by omega) (by omega)
          show 1 ≤ p.2 * u
          omega
        · exact h
      · exact mulV_ok h (by rw [e] at h1; exact (vokN (U := q.1) (W := q.2) h1).2.1)
    · exact h
theorem sumL_ok : ∀ (l : List (Int × Int)) (acc : Vl), vok acc → (∀ q ∈ l, vok (some (some q))) → vok (l.foldl (fun acc q => addV acc q.1 q.2) acc)
  | [], acc, h, _ => h
  | q :: t, acc, h, hl => sumL_ok t _ (addV_ok h (vokN (U := q.1) (W := q.2) (hl q (by simp))).2.1) (fun a ha => hl a (by simp [ha]))
theorem nums_ok {l : List Vl} (h : ∀ v ∈ l, vok v) : ∀ q ∈ nums l, vok (some (some q)) := by
  intro q hq
  obtain ⟨v, hv, e⟩ := List.mem_filterMap.mp hq
  rcases v with _ | _ | v
  · cases e
  · cases e
  · cases e; exact h _ hv
theorem vok01 : vok (vN 0 1) := ⟨by decide, by decide, by decide, by decide, by decide⟩
theorem vok11 : vok (vN 1 1) := ⟨by decide, by decide, by decide, by decide, by decide⟩
theorem vokI {x : Int} (h : 0 ≤ x ∧ x ≤ 9999) : vok (vN x 1) := ⟨by show -1000000000 ≤ x; omega, by show x ≤ 1000000000; omega, by show (1 : Int) ≤ 1; decide, by show (1 : Int) ≤ 1000000000; decide, by simp⟩
theorem capV_ok {op num : Int} {v : Vl} (h : vok v) (hn : 0 ≤ num ∧ num ≤ 9999) : vok (capV op num v) := by
  unfold capV
  split
  · split
    · exact vokI (by split <;> omega)
    · split
      · exact vokI hn
      · exact h
  · exact h
theorem pickV_ok {op num : Int} {L : List (Int × Int)} (h : ∀ q ∈ L, vok (some (some q))) : vok (pickV op num L) := by
  have hs : ∀ q ∈ sortR qlt L, vok (some (some q)) := fun q hq => h q (sortR_mem hq)
  unfold pickV
  split
  · cases e : (sortR qlt L).reverse.head? with
    | none => trivial
    | some q => exact hs q (List.mem_reverse.mp (List.mem_of_head? e))
  · split
    · cases e : (sortR qlt L).head? with
      | none => trivial
      | some q => exact hs q (List.mem_of_head? e)
    · split
      · exact sumL_ok _ _ vok01 (fun q hq => hs q (List.mem_reverse.mp (List.mem_of_mem_take hq)))
      · exact sumL_ok _ _ vok01 (fun q hq => hs q (List.mem_reverse.mp (List.mem_of_mem_take hq)))
theorem comb_ok {op num : Int} {cs : List CE} (hn : 0 ≤ num ∧ num ≤ 9999) (h : ∀ c ∈ cs, vok c.1) (h3 : op = 3 → ∀ c ∈ cs, c.2.1 ≠ 0 → c.2.2 = 0 → ∃ u, c.1 = vN u 1 ∧ 1 ≤ u) : vok (comb op num cs) := by
  unfold comb
  split
  · trivial
  rename_i hX
  split
  · trivial
  rename_i hO
  split
  · exact sumF_ok _ _ _ vok01 h
  split
  · rename_i h4
    exact prodF_ok _ _ vok11 (fun c hc => ⟨h c hc, h3 h4 c hc⟩)
  split
  · split
    · trivial
    · exact capV_ok (h _ (by simp)) hn
  split
  · unfold divV
    split
    · rename_i h5 q h6
      have h7 := sumF_ok false cs _ vok01 h
      rw [h6] at h7
      have h8 := (vokN (U := q.1) (W := q.2) h7).2.1
      cases e : (nums (cs.map (fun c => c.1))).length with
      | zero =>
        exfalso
        have h14 : cs.all (fun c => isO c.1) = true := by
          rw [List.all_eq_true]
          intro c hc
          have h15 : nums (cs.map (fun c => c.1)) = [] := List.length_eq_zero_iff.mp e
          have h16 := List.filterMap_eq_nil_iff.mp h15 c.1 (List.mem_map.mpr ⟨c, hc, rfl⟩)
          rcases hv : c.1 with _ | _ | v
          · rfl
          · exfalso
            apply hX
            rw [List.any_eq_true]
            exact ⟨c, hc, by rw [hv]; rfl⟩
          · rw [hv] at h16; simp at h16
        exact hO (Or.inl h14)
      | succ m =>
        refine nrm_ok ?_
        have h3 := Int.mul_le_mul h8 (show (1 : Int) ≤ ((m + 1 : Nat) : Int) by omega) (by omega) (by omega)
        omega
    · exact sumF_ok false cs _ vok01 h
  · exact pickV_ok (nums_ok (fun v hv => by
      obtain ⟨c, hc, rfl⟩ := List.mem_map.mp hv
      exact h c hc))
/-- the reference's trees: kinds, numbers, first parts, next ones, turned -/
abbrev TD : Type := (Nat → Int) × (Nat → Int) × (Nat → Int) × (Nat → Int) × (Nat → Int)
def tdM (σ : am_HS) : TD := (fun j => hI σ 17 j, fun j => hI σ 18 j, fun j => hI σ 19 j, fun j => hI σ 20 j, fun j => hI σ 22 j)
def NdC (P : Nat → Nat → Den → Prop) (bes : Nat → Int) : Int → Nat → Nat → List (Nat × Den) → Prop
  | y, lo, hi, [] => y < 0 ∧ lo = hi
  | y, lo, hi, q :: t => y = (lo : Int) ∧ q.1 = lo ∧ ∃ mid, lo < mid ∧ P lo mid q.2 ∧ NdC P bes (bes lo) mid hi t
def Nd (t : TD) (ok : Nat → Prop) : Nat → Nat → Nat → Den → Prop
  | 0, _, _, _ => False
  | f + 1, x, hi, e => hi ≤ 3200 ∧ x < hi ∧ (
    (t.1 x = 0 ∧ hi = x + 1 ∧ (0 ≤ t.2.1 x ∧ t.2.1 x ≤ 9999) ∧ e = fun _ => vN (t.2.1 x) 1) ∨
    (t.1 x = 1 ∧ hi = x + 1 ∧ ((∃ w : Nat, w < 10 ∧ t.2.1 x = 100 + (w : Int) ∧ e = fun env => env w) ∨ (∃ r : Nat, r < 12 ∧ ok r ∧ t.2.1 x = (r : Int) ∧ e = fun env => env (10 + r)))) ∨
    ((2 ≤ t.1 x ∧ t.1 x ≤ 10) ∧ (0 ≤ t.2.1 x ∧ t.2.1 x ≤ 9999) ∧ ∃ cs : List (Nat × Den), cs ≠ [] ∧ (4 ≤ t.1 x → cs.length ≤ 10) ∧ (9 ≤ t.1 x → cs.length = 1) ∧ (t.1 x = 3 → ∀ q ∈ cs, t.2.2.2.2 q.1 ≠ 0 → t.1 q.1 = 0 → 1 ≤ t.2.1 q.1) ∧ NdC (Nd t ok f) t.2.2.2.1 (t.2.2.1 x) (x + 1) hi cs ∧ e = fun env => comb (t.1 x) (t.2.1 x) (cs.map (fun q => (q.2 env, t.2.2.2.2 q.1, t.1 q.1)))))
theorem NdC_mem {P : Nat → Nat → Den → Prop} {bes : Nat → Int} : ∀ {cs : List (Nat × Den)} {y : Int} {lo hi : Nat}, NdC P bes y lo hi cs → ∀ q ∈ cs, ∃ mid, P q.1 mid q.2 ∧ lo ≤ q.1 ∧ mid ≤ hi ∧ q.1 < mid
  | [], _, _, _, _, _, hq => by cases hq
  | c :: t, y, lo, hi, h, q, hq => by
    obtain ⟨h1, h2, mid, h3, h4, h5⟩ := h
    have hle : mid ≤ hi := by
      have : ∀ (t : List (Nat × Den)) (y : Int) (lo hi : Nat), NdC P bes y lo hi t → lo ≤ hi := by
        intro t
        induction t with
        | nil => intro y lo hi h; exact Nat.le_of_eq h.2
        | cons a t ih =>
          intro y lo hi h
          obtain ⟨_, _, mid, h3, _, h5⟩ := h
          have := ih _ _ _ h5
          omega
      exact this _ _ _ _ h5
    rcases List.mem_cons.mp hq with rfl | hq
    · exact ⟨mid, by rw [h2]; exact h4, by omega, hle, by omega⟩
    · obtain ⟨m2, g1, g2, g3, g4⟩ := NdC_mem h5 q hq
      exact ⟨m2, g1, by omega, g3, g4⟩
theorem Nd_num {t : TD} {ok : Nat → Prop} {f x hi : Nat} {e : Den} (h : Nd t ok f x hi e) (h0 : t.1 x = 0) : e = fun _ => vN (t.2.1 x) 1 := by
  cases f with
  | zero => exact h.elim
  | succ f =>
    obtain ⟨_, _, h | h | h⟩ := h
    · exact h.2.2.2
    · omega
    · omega
theorem Nd_ok {t : TD} {ok : Nat → Prop} : ∀ {f x hi : Nat} {e : Den}, Nd t ok f x hi e → ∀ env : Nat → Vl, (∀ a, vok (env a)) → vok (e env)
  | 0, _, _, _, h, _, _ => h.elim
  | f + 1, x, hi, e, h, env, hv => by
    obtain ⟨_, _, h | h | h⟩ := h
    · obtain ⟨_, _, h1, rfl⟩ := h
      exact vokI h1
    · obtain ⟨_, _, ⟨w, _, _, rfl⟩ | ⟨r, _, _, _, rfl⟩⟩ := h
      · exact hv _
      · exact hv _
    · obtain ⟨_, h2, cs, _, _, _, h5, h6, rfl⟩ := h
      refine comb_ok h2 ?_ ?_
      · intro c hc
        obtain ⟨q, hq, rfl⟩ := List.mem_map.mp hc
        obtain ⟨mid, h7, _⟩ := NdC_mem h6 q hq
        exact Nd_ok h7 env hv
      · intro h3 c hc h7 h8
        obtain ⟨q, hq, rfl⟩ := List.mem_map.mp hc
        obtain ⟨mid, h9, _⟩ := NdC_mem h6 q hq
        have h10 := Nd_num h9 h8
        exact ⟨t.2.1 q.1, by show q.2 env = _; rw [h10], h5 h3 q hq h7 h8⟩
/-- what reckoning may change -/
def EvF (σ s : am_HS) (Zn Zr : Nat → Prop) : Prop := s.2.2 = σ.2.2 ∧ (∀ o j, hI s o j = hI σ o j ∨ (o = 0 ∧ j = 48) ∨ (o = 33 ∧ Zr j) ∨ (o = 36 ∧ Zn j) ∨ o = 39) ∧ (∀ o j, hL s o j = hL σ o j ∨ (o = 0 ∧ (j = 49 ∨ j = 50)) ∨ ((o = 34 ∨ o = 35) ∧ Zr j) ∨ ((o = 37 ∨ o = 38) ∧ Zn j))
theorem EvF.rf (σ : am_HS) (Zn Zr : Nat → Prop) : EvF σ σ Zn Zr := ⟨rfl, fun _ _ => Or.inl rfl, fun _ _ => Or.inl rfl⟩
theorem EvF.trans {σ s u : am_HS} {Zn Zr Zn2 Zr2 Yn Yr : Nat → Prop} (h : EvF σ s Zn Zr) (h2 : EvF s u Zn2 Zr2) (e1 : ∀ j, Zn j → Yn j) (e2 : ∀ j, Zr j → Yr j) (e3 : ∀ j, Zn2 j → Yn j) (e4 : ∀ j, Zr2 j → Yr j) : EvF σ u Yn Yr := by
  refine ⟨h2.1.trans h.1, fun o j => ?_, fun o j => ?_⟩
  · rcases h2.2.1 o j with a | a | a | a | a
    · rcases h.2.1 o j with b | b | b | b | b
      · exact Or.inl (a.trans b)
      · exact Or.inr (Or.inl b)
      · exact Or.inr (Or.inr (Or.inl ⟨b.1, e2 _ b.2⟩))
      · exact Or.inr (Or.inr (Or.inr (Or.inl ⟨b.1, e1 _ b.2⟩)))
      · exact Or.inr (Or.inr (Or.inr (Or.inr b)))
    · exact Or.inr (Or.inl a)
    · exact Or.inr (Or.inr (Or.inl ⟨a.1, e4 _ a.2⟩))
    · exact Or.inr (Or.inr (Or.inr (Or.inl ⟨a.1, e3 _ a.2⟩)))
    · exact Or.inr (Or.inr (Or.inr (Or.inr a)))
  · rcases h2.2.2 o j with a | a | a | a
    · rcases h.2.2 o j with b | b | b | b
      · exact Or.inl (a.trans b)
      · exact Or.inr (Or.inl b)
      · exact Or.inr (Or.inr (Or.inl ⟨b.1, e2 _ b.2⟩))
      · exact Or.inr (Or.inr (Or.inr ⟨b.1, e1 _ b.2⟩))
    · exact Or.inr (Or.inl a)
    · exact Or.inr (Or.inr (Or.inl ⟨a.1, e4 _ a.2⟩))
    · exact Or.inr (Or.inr (Or.inr ⟨a.1, e3 _ a.2⟩))
theorem EvF.mono {σ s : am_HS} {Zn Zr Yn Yr : Nat → Prop} (h : EvF σ s Zn Zr) (e1 : ∀ j, Zn j → Yn j) (e2 : ∀ j, Zr j → Yr j) : EvF σ s Yn Yr := h.trans (EvF.rf s (fun _ => False) (fun _ => False)) e1 e2 (fun _ h => h.elim) (fun _ h => h.elim)
theorem EvF_uT (σ : am_HS) (z U W : Int) (Zn Zr : Nat → Prop) : EvF σ (uT σ z U W) Zn Zr := by
  refine ⟨rfl, fun o j => ?_, fun o j => ?_⟩
  · by_cases h : o = 0 ∧ j = 48
    · exact Or.inr (Or.inl h)
    · exact Or.inl (hI_uT h)
  · by_cases h : o = 0 ∧ (j = 49 ∨ j = 50)
    · exact Or.inr (Or.inl h)
    · exact Or.inl (hL_uT h)

theorem EvF_uTp (σ : am_HS) (g : Nat → Int32) (z U W : Int) (Zn Zr : Nat → Prop) : EvF σ (uT (putA σ 39 g) z U W) Zn Zr := by
  refine ⟨rfl, fun o j => ?_, fun o j => ?_⟩
  · by_cases h : o = 0 ∧ j = 48
    · exact Or.inr (Or.inl h)
    · by_cases h2 : o = 39
      · exact Or.inr (Or.inr (Or.inr (Or.inr h2)))
      · exact Or.inl ((hI_uT h).trans (hI_putA h2))
  · by_cases h : o = 0 ∧ (j = 49 ∨ j = 50)
    · exact Or.inr (Or.inl h)
    · exact Or.inl (hL_uT h)
theorem EvF.I {σ s : am_HS} {Zn Zr : Nat → Prop} (h : EvF σ s Zn Zr) {o j : Nat} (h1 : ¬ (o = 0 ∧ j = 48)) (h2 : o ≠ 33) (h3 : o ≠ 36) (h4 : o ≠ 39) : hI s o j = hI σ o j := by
  rcases h.2.1 o j with a | a | a | a | a
  · exact a
  · exact absurd a h1
  · exact absurd a.1 h2
  · exact absurd a.1 h3
  · exact absurd a h4
theorem EvF.td {σ s : am_HS} {Zn Zr : Nat → Prop} (h : EvF σ s Zn Zr) : tdM s = tdM σ := by
  unfold tdM
  refine Prod.ext (funext fun j => h.I (by omega) (by omega) (by omega) (by omega)) (Prod.ext (funext fun j => h.I (by omega) (by omega) (by omega) (by omega)) (Prod.ext (funext fun j => h.I (by omega) (by omega) (by omega) (by omega)) (Prod.ext (funext fun j => h.I (by omega) (by omega) (by omega) (by omega)) (funext fun j => h.I (by omega) (by omega) (by omega) (by omega)))))
theorem EvF.node {σ s : am_HS} {Zn Zr : Nat → Prop} (h : EvF σ s Zn Zr) {y : Nat} (hy : ¬ Zn y) : hI s 36 y = hI σ 36 y ∧ hL s 37 y = hL σ 37 y ∧ hL s 38 y = hL σ 38 y := by
  refine ⟨?_, ?_, ?_⟩
  · rcases h.2.1 36 y with a | a | a | a | a
    · exact a
    · omega
    · omega
    · exact absurd a.2 hy
    · omega
  · rcases h.2.2 37 y with a | a | a | a
    · exact a
    · omega
    · omega
    · exact absurd a.2 hy
  · rcases h.2.2 38 y with a | a | a | a
    · exact a
    · omega
    · omega
    · exact absurd a.2 hy
theorem EvF.memo {σ s : am_HS} {Zn Zr : Nat → Prop} (h : EvF σ s Zn Zr) {y : Nat} (hy : ¬ Zr y) : hI s 33 y = hI σ 33 y ∧ hL s 34 y = hL σ 34 y ∧ hL s 35 y = hL σ 35 y := by
  refine ⟨?_, ?_, ?_⟩
  · rcases h.2.1 33 y with a | a | a | a | a
    · exact a
    · omega
    · exact absurd a.2 hy
    · omega
    · omega
  · rcases h.2.2 34 y with a | a | a | a
    · exact a
    · omega
    · exact absurd a.2 hy
    · omega
  · rcases h.2.2 35 y with a | a | a | a
    · exact a
    · omega
    · exact absurd a.2 hy
    · omega
theorem EvF.rg {σ s : am_HS} {Zn Zr : Nat → Prop} (h : EvF σ s Zn Zr) (hb : rgM σ) : rgM s := by
  intro o j
  have hr := hI_r s o j
  unfold rI at hr
  rcases h.2.1 o j with a | a | a | a | a
  · rw [a]; exact hb o j
  · rw [a.1]; rw [a.1] at hr; exact ⟨by show (-2147483648 : Int) ≤ _; omega, by show _ ≤ (2147483647 : Int); omega⟩
  · rw [a.1]; rw [a.1] at hr; exact ⟨by show (-2147483648 : Int) ≤ _; omega, by show _ ≤ (2147483647 : Int); omega⟩
  · rw [a.1]; rw [a.1] at hr; exact ⟨by show (-2147483648 : Int) ≤ _; omega, by show _ ≤ (2147483647 : Int); omega⟩
  · rw [a]; rw [a] at hr; exact ⟨by show (-2147483648 : Int) ≤ _; omega, by show _ ≤ (2147483647 : Int); omega⟩
theorem mtM_congr {σ s : am_HS} (h : ∀ o j, 1 ≤ o → o ≤ 15 → hI s o j = hI σ o j) (p w : Nat) (t : Int) : mtM s p w t = mtM σ p w t := by
  have h3 := fun j => h 3 j (by decide) (by decide)
  have h5 := fun j => h 5 j (by decide) (by decide)
  have h6 := fun j => h 6 j (by decide) (by decide)
  have h9 := fun j => h 9 j (by decide) (by decide)
  have h11 := fun j => h 11 j (by decide) (by decide)
  have h13 := fun j => h 13 j (by decide) (by decide)
  have h14 := fun j => h 14 j (by decide) (by decide)
  have h15 := fun j => h 15 j (by decide) (by decide)
  simp only [mtM, mvM, h3, h5, h6, h9, h11, h13, h14, h15]
