/-! NAMES TIED: meanings over works and rules; values of all rules -/
theorem sumF_map {α : Type} (neg : Bool) (v : α → Vl) (a b a' b' : α → Int) : ∀ (l : List α) (acc : Vl), (neg = true → ∀ q ∈ l, (a q ≠ 0 ↔ a' q ≠ 0)) → sumF neg acc (l.map (fun q => (v q, a q, b q))) = sumF neg acc (l.map (fun q => (v q, a' q, b' q)))
  | [], _, _ => rfl
  | q :: t, acc, h => by
    have e : sumS1 neg acc (v q, a q, b q) = sumS1 neg acc (v q, a' q, b' q) := by
      unfold sumS1
      dsimp only
      split
      · by_cases hn : neg = true
        · have := h hn q (by simp)
          by_cases g : a q ≠ 0
          · rw [if_pos ⟨g, hn⟩, if_pos ⟨this.mp g, hn⟩]
          · rw [if_neg (fun x => g x.1), if_neg (fun x => g (this.mpr x.1))]
        · rw [if_neg (fun x => hn x.2), if_neg (fun x => hn x.2)]
      · rfl
    show sumF neg (sumS1 neg acc (v q, a q, b q)) (t.map _) = sumF neg (sumS1 neg acc (v q, a' q, b' q)) (t.map _)
    rw [e]
    exact sumF_map neg v a b a' b' t _ (fun hn x hx => h hn x (by simp [hx]))
theorem prodF_map {α : Type} (v : α → Vl) (a b a' b' : α → Int) : ∀ (l : List α) (acc : Vl), (∀ q ∈ l, (a q ≠ 0 ∧ b q = 0 ↔ a' q ≠ 0 ∧ b' q = 0)) → prodF acc (l.map (fun q => (v q, a q, b q))) = prodF acc (l.map (fun q => (v q, a' q, b' q)))
  | [], _, _ => rfl
  | q :: t, acc, h => by
    have e : prodS1 acc (v q, a q, b q) = prodS1 acc (v q, a' q, b' q) := by
      unfold prodS1
      dsimp only
      have := h q (by simp)
      split
      · by_cases g : a q ≠ 0 ∧ b q = 0
        · rw [if_pos g, if_pos (this.mp g)]
        · rw [if_neg g, if_neg (fun x => g (this.mpr x))]
      · rfl
    show prodF (prodS1 acc (v q, a q, b q)) (t.map _) = prodF (prodS1 acc (v q, a' q, b' q)) (t.map _)
    rw [e]
    exact prodF_map v a b a' b' t _ (fun x hx => h x (by simp [hx]))
theorem comb_map {α : Type} (op num : Int) (v : α → Vl) (a b a' b' : α → Int) (l : List α) (h2 : op = 2 → ∀ q ∈ l, (a q ≠ 0 ↔ a' q ≠ 0)) (h3 : op = 3 → ∀ q ∈ l, (a q ≠ 0 ∧ b q = 0 ↔ a' q ≠ 0 ∧ b' q = 0)) : comb op num (l.map (fun q => (v q, a q, b q))) = comb op num (l.map (fun q => (v q, a' q, b' q))) := by
  unfold comb
  have e1 : (l.map (fun q => (v q, a q, b q))).map (fun c : CE => c.1) = (l.map (fun q => (v q, a' q, b' q))).map (fun c : CE => c.1) := by simp only [List.map_map]; rfl
  have e2 : (l.map (fun q => (v q, a q, b q))).any (fun c : CE => isX c.1) = (l.map (fun q => (v q, a' q, b' q))).any (fun c : CE => isX c.1) := by simp only [List.any_map]; rfl
  have e3 : (l.map (fun q => (v q, a q, b q))).all (fun c : CE => isO c.1) = (l.map (fun q => (v q, a' q, b' q))).all (fun c : CE => isO c.1) := by simp only [List.all_map]; rfl
  have e4 : (l.map (fun q => (v q, a q, b q))).any (fun c : CE => isO c.1) = (l.map (fun q => (v q, a' q, b' q))).any (fun c : CE => isO c.1) := by simp only [List.any_map]; rfl
  rw [e1, e2, e3, e4]
  by_cases k2 : op = 2
  · rw [sumF_map true v a b a' b' l _ (fun _ => h2 k2), if_pos k2, if_pos k2]
  · rw [if_neg k2, if_neg k2]
    by_cases k3 : op = 3
    · rw [prodF_map v a b a' b' l _ (h3 k3), if_pos k3, if_pos k3]
    · rw [if_neg k3, if_neg k3, sumF_map false v a b a' b' l _ (fun h => absurd h (by decide))]
      cases l <;> rfl
/-- where a tied name's value lies -/
def tgE (x : Int) : Nat := if x < 100 then 10 + x.toNat else (x - 100).toNat
def tieD (res : Int → Int) (e : NDn) : Den := fun env => e (fun v => env (tgE (res v)))
theorem NdP_tie {t t' : TD} {res : Int → Int} {ok : Nat → Prop} : ∀ {f x hi : Nat} {e : NDn}, (∀ j, x ≤ j → j < hi → t'.1 j = t.1 j ∧ t'.2.2.1 j = t.2.2.1 j ∧ (t.1 j ≠ 1 → t'.2.1 j = t.2.1 j) ∧ (t.1 j = 1 → t'.2.1 j = res (t.2.1 j) ∧ ((100 ≤ res (t.2.1 j) ∧ res (t.2.1 j) < 110) ∨ (0 ≤ res (t.2.1 j) ∧ res (t.2.1 j) < 12 ∧ ok (res (t.2.1 j)).toNat)))) → (∀ j, x < j → j < hi → t'.2.2.2.1 j = t.2.2.2.1 j ∧ t'.2.2.2.2 j = t.2.2.2.2 j) → NdP t f x hi e → Nd t' ok f x hi (tieD res e)
  | 0, _, _, _, _, _, h => h.elim
  | f + 1, x, hi, e, ha, hb, h => by
    obtain ⟨h1, h2, h3⟩ := h
    obtain ⟨a1, a2, a3, a4⟩ := ha x (Nat.le_refl _) h2
    refine ⟨h1, h2, ?_⟩
    rw [a1, a2]
    rcases h3 with ⟨b1, b2, b3, b4⟩ | ⟨b1, b2, b3⟩ | ⟨h3, h4, cs, h5, h6, h7, h8, h9, h10⟩
    · refine Or.inl ⟨b1, b2, ?_, ?_⟩
      · rw [a3 (by omega)]; exact b3
      · rw [a3 (by omega), b4]; rfl
    · obtain ⟨c1, c2⟩ := a4 b1
      refine Or.inr (Or.inl ⟨b1, b2, ?_⟩)
      rw [c1, b3]
      rcases c2 with ⟨d1, d2⟩ | ⟨d1, d2, d3⟩
      · refine Or.inl ⟨(res (t.2.1 x) - 100).toNat, by omega, by omega, ?_⟩
        funext env
        show env (tgE (res (t.2.1 x))) = _
        unfold tgE
        rw [if_neg (by omega)]
      · refine Or.inr ⟨(res (t.2.1 x)).toNat, by omega, d3, by omega, ?_⟩
        funext env
        show env (tgE (res (t.2.1 x))) = _
        unfold tgE
        rw [if_pos (by omega)]
    · have hn1 : t.1 x ≠ 1 := by omega
      rw [a3 hn1]
      refine Or.inr (Or.inr ⟨h3, h4, cs.map (fun q => (q.1, tieD res q.2.1)), by simpa using h5, fun h => by rw [List.length_map]; exact h6 h, fun h => by rw [List.length_map]; exact h7 h, ?_, ?_, ?_⟩)
      · intro h3' q hq hq2 hq3
        obtain ⟨q0, hq0, rfl⟩ := List.mem_map.mp hq
        obtain ⟨mid, _, g2, g3, g4⟩ := NdK_mem h8 q0 hq0
        have hf := h9 q0 hq0
        obtain ⟨k1, k2, k3, k4⟩ := ha q0.1 (by omega) (by omega)
        have k5 := (hb q0.1 (by omega) (by omega)).2
        dsimp only at hq2 hq3 ⊢
        rw [k5] at hq2
        rw [k1] at hq3
        rw [k3 (by omega)]
        unfold NdP.FlK at hf
        rw [if_neg (by omega), if_pos h3'] at hf
        by_cases g : q0.2.2 = true
        · rw [if_pos g] at hf; exact hf.2.2
        · rw [if_neg g] at hf; exact absurd hf hq2
      · have key : ∀ (cs : List (Nat × (NDn × Bool))) (y : Int) (lo : Nat), x + 1 ≤ lo → NdP.NdK t (NdP t f) y lo hi cs → NdC (Nd t' ok f) t'.2.2.2.1 y lo hi (cs.map (fun q => (q.1, tieD res q.2.1))) := by
          intro cs
          induction cs with
          | nil => intro y lo _ h; exact h
          | cons q l ih =>
            intro y lo hlo h
            obtain ⟨g1, g2, mid, g3, g4, g5⟩ := h
            have hle := NdK_le g5
            refine ⟨g1, g2, mid, g3, NdP_tie (fun j j1 j2 => ha j (by omega) (by omega)) (fun j j1 j2 => hb j (by omega) (by omega)) g4, ?_⟩
            rw [(hb lo (by omega) (by omega)).1]
            exact ih _ _ (by omega) g5
        exact key cs _ _ (Nat.le_refl _) h8
      · rw [h10]
        funext env
        unfold tieD cmbL
        try dsimp only
        rw [List.map_map, List.map_map]
        refine (comb_map (t.1 x) (t.2.1 x) (fun q : Nat × (NDn × Bool) => q.2.1 (fun v => env (tgE (res v)))) (fun q => if q.2.2 = true then 1 else 0) (fun q => if q.2.2 = true then 0 else 2) (fun q => t'.2.2.2.2 q.1) (fun q => t'.1 q.1) cs ?_ ?_)
        · intro k q hq
          obtain ⟨mid, _, g2, g3, g4⟩ := NdK_mem h8 q hq
          have hf := h9 q hq
          unfold NdP.FlK at hf
          rw [if_pos k] at hf
          rw [(hb q.1 (by omega) (by omega)).2, hf]
        · intro k q hq
          obtain ⟨mid, _, g2, g3, g4⟩ := NdK_mem h8 q hq
          have hf := h9 q hq
          unfold NdP.FlK at hf
          rw [if_neg (by omega), if_pos k] at hf
          rw [(hb q.1 (by omega) (by omega)).2, (ha q.1 (by omega) (by omega)).1]
          by_cases g : q.2.2 = true
          · rw [if_pos g] at hf
            rw [if_pos g, if_pos g, hf.1, hf.2.1]
          · rw [if_neg g] at hf
            rw [if_neg g, if_neg g, hf]
            exact ⟨fun h => absurd rfl h.1, fun h => absurd rfl h.1⟩
/-- a meaning looks at its names alone -/
theorem NdP_dep {t : TD} {env env' : Int → Vl} : ∀ {f x hi : Nat} {e : NDn}, NdP t f x hi e → (∀ k, x ≤ k → k < hi → t.1 k = 1 → env (t.2.1 k) = env' (t.2.1 k)) → e env = e env'
  | 0, _, _, _, h, _ => h.elim
  | f + 1, x, hi, e, h, he => by
    obtain ⟨h1, h2, h3⟩ := h
    rcases h3 with ⟨b1, b2, b3, b4⟩ | ⟨b1, b2, b3⟩ | ⟨h3, h4, cs, h5, h6, h7, h8, h9, h10⟩
    · rw [b4]
    · rw [b3]; exact he x (Nat.le_refl _) h2 b1
    · rw [h10]
      unfold cmbL
      try dsimp only
      rw [List.map_map, List.map_map]
      congr 1
      refine List.map_congr_left (fun q hq => ?_)
      obtain ⟨mid, g1, g2, g3, g4⟩ := NdK_mem h8 q hq
      have := NdP_dep g1 (fun k k1 k2 k3 => he k (by omega) (by omega) k3)
      dsimp only [Function.comp]
      rw [this]
theorem NdP_num {t : TD} {f x hi : Nat} {e : NDn} (h : NdP t f x hi e) (h0 : t.1 x = 0) : e = fun _ => vN (t.2.1 x) 1 := by
  cases f with
  | zero => exact h.elim
  | succ f =>
    obtain ⟨_, _, h | h | h⟩ := h
    · exact h.2.2.2
    · omega
    · omega
theorem NdP_ok {t : TD} {env : Int → Vl} (hv : ∀ v, vok (env v)) : ∀ {f x hi : Nat} {e : NDn}, NdP t f x hi e → vok (e env)
  | 0, _, _, _, h => h.elim
  | f + 1, x, hi, e, h => by
    obtain ⟨h1, h2, h3⟩ := h
    rcases h3 with ⟨b1, b2, b3, b4⟩ | ⟨b1, b2, b3⟩ | ⟨h3, h4, cs, h5, h6, h7, h8, h9, h10⟩
    · rw [b4]; exact vokI b3
    · rw [b3]; exact hv _
    · rw [h10]
      refine comb_ok h4 ?_ ?_
      · intro c hc
        obtain ⟨b, hb, rfl⟩ := List.mem_map.mp hc
        obtain ⟨q, hq, rfl⟩ := List.mem_map.mp hb
        obtain ⟨mid, g1, _⟩ := NdK_mem h8 q hq
        exact NdP_ok hv g1
      · intro k c hc hc2 hc3
        obtain ⟨b, hb, rfl⟩ := List.mem_map.mp hc
        obtain ⟨q, hq, rfl⟩ := List.mem_map.mp hb
        obtain ⟨mid, g1, _⟩ := NdK_mem h8 q hq
        have hf := h9 q hq
        unfold NdP.FlK at hf
        rw [if_neg (by omega), if_pos k] at hf
        dsimp only at hc2 hc3
        by_cases g : q.2.2 = true
        · rw [if_pos g] at hf
          have := NdP_num g1 hf.2.1
          exact ⟨_, by dsimp only; rw [this], hf.2.2⟩
        · rw [if_neg g] at hc2
          exact absurd rfl hc2
/-! ranks -/
theorem cntB_lt {c c' : Nat → Bool} : ∀ n, (∀ j, j < n → c j = true → c' j = true) → (∃ j, j < n ∧ c' j = true ∧ c j = false) → cntB c n < cntB c' n
  | 0, _, ⟨j, h, _⟩ => absurd h (Nat.not_lt_zero _)
  | n + 1, h, ⟨j, h1, h2, h3⟩ => by
    have hle : ∀ m, (∀ j, j < m → c j = true → c' j = true) → cntB c m ≤ cntB c' m := by
      intro m
      induction m with
      | zero => intro _; exact Nat.le_refl _
      | succ m ih =>
        intro hm
        have := ih (fun j hj => hm j (by omega))
        have := hm m (by omega)
        unfold cntB
        cases hc : c m
        · simp; omega
        · rw [this hc]; simp; omega
    unfold cntB
    rcases Nat.lt_or_ge j n with q | q
    · have := cntB_lt n (fun j hj => h j (by omega)) ⟨j, q, h2, h3⟩
      have := h n (by omega)
      cases hc : c n
      · simp; omega
      · rw [this hc]; simp; omega
    · have : j = n := by omega
      subst this
      have := hle j (fun i hi => h i (by omega))
      rw [h2, h3]
      simp
      omega
theorem cntB_all (n : Nat) : cntB (fun _ => true) n = n := by
  induction n with
  | zero => rfl
  | succ n ih => unfold cntB; rw [ih]; simp
theorem rank_of {E : Nat → Nat → Prop} (h : ¬ ∃ k, k < 22 ∧ rch E 22 k k) : ∃ ρ : Nat → Nat, (∀ r, r < 12 → ρ r < 12) ∧ ∀ r r', r < 12 → r' < 12 → E r r' → ρ r' < ρ r := by
  refine ⟨fun r => cntB (fun j => @decide (rch E 22 r j) (Classical.propDecidable _)) 12, fun r hr => ?_, fun r r' hr hr' he => ?_⟩
  · have := cntB_lt (c := fun j => @decide (rch E 22 r j) (Classical.propDecidable _)) (c' := fun _ => true) 12 (fun _ _ _ => rfl) ⟨r, hr, rfl, @decide_eq_false _ (Classical.propDecidable _) (fun q => h ⟨r, by omega, q⟩)⟩
    rw [cntB_all] at this
    exact this
  · refine cntB_lt 12 (fun j _ hj => @decide_eq_true _ (Classical.propDecidable _) (rch_tr 22 r r' j (by omega) (rch_up he) (@of_decide_eq_true _ (Classical.propDecidable _) hj))) ⟨r', hr', @decide_eq_true _ (Classical.propDecidable _) (rch_up he), @decide_eq_false _ (Classical.propDecidable _) (fun q => h ⟨r', by omega, q⟩)⟩
/-! the values of all rules -/
def rvI (n : Nat) (ev : Nat → Den) (mk : Nat → Vl) : Nat → Nat → Vl
  | 0 => fun _ => vO
  | k + 1 => fun r => if r < n then ev r (envf mk (rvI n ev mk k)) else vO
abbrev rvC (n : Nat) (ev : Nat → Den) (mk : Nat → Vl) : Nat → Vl := rvI n ev mk 12
/-- what holds of any rules in use: n of them, their meanings, what they name -/
def BkS (n : Nat) (ev : Nat → Den) (ed : Nat → Nat → Prop) : Prop := n ≤ 12 ∧ (∀ r, r < n → ∀ env env' : Nat → Vl, (∀ a, (a < 10 ∧ ed r (12 + a)) ∨ (∃ r', r' < n ∧ ed r r' ∧ a = 10 + r') → env a = env' a) → ev r env = ev r env') ∧ (∀ r, r < n → ∀ env : Nat → Vl, (∀ a, vok (env a)) → vok (ev r env)) ∧ (∀ r b, r < n → ed r b → b < n ∨ (12 ≤ b ∧ b < 22)) ∧ ∃ ρ : Nat → Nat, (∀ r, r < n → ρ r < 12) ∧ ∀ r r', r < n → r' < n → ed r r' → ρ r' < ρ r
theorem rvI_ok {n : Nat} {ev : Nat → Den} {ed : Nat → Nat → Prop} (h : BkS n ev ed) {mk : Nat → Vl} (hm : ∀ w, vok (mk w)) : ∀ k r, vok (rvI n ev mk k r)
  | 0, _ => trivial
  | k + 1, r => by
    unfold rvI
    split
    · rename_i hr
      refine h.2.2.1 r hr _ (fun a => ?_)
      unfold envf
      split
      · exact hm a
      · exact rvI_ok h hm k _
    · trivial
theorem rvC_RV {n : Nat} {ev : Nat → Den} {ed : Nat → Nat → Prop} (h : BkS n ev ed) {mk : Nat → Vl} (hm : ∀ w, vok (mk w)) : RV n ev mk (rvC n ev mk) := by
  obtain ⟨ρ, h1, h2⟩ := h.2.2.2.2
  have st : ∀ k r, r < n → ρ r < k → rvI n ev mk (k + 1) r = rvI n ev mk k r := by
    intro k
    induction k with
    | zero => intro r _ hr; omega
    | succ k ih =>
      intro r hr hk
      show (if r < n then ev r (envf mk (rvI n ev mk (k + 1))) else vO) = (if r < n then ev r (envf mk (rvI n ev mk k)) else vO)
      rw [if_pos hr, if_pos hr]
      refine h.2.1 r hr _ _ (fun a ha => ?_)
      unfold envf
      rcases ha with ⟨a1, _⟩ | ⟨r', a1, a2, rfl⟩
      · rw [if_pos a1, if_pos a1]
      · rw [if_neg (by omega), if_neg (by omega), Nat.add_sub_cancel_left]
        have := h2 r r' hr a1 a2
        exact ih r' a1 (by omega)
  refine ⟨fun r hr => ?_, hm, fun r => rvI_ok h hm 12 r⟩
  have e := st 12 r hr (h1 r hr)
  have e2 : rvI n ev mk (12 + 1) r = ev r (envf mk (rvI n ev mk 12)) := if_pos hr
  exact e.symm.trans e2
theorem RV_uni {n : Nat} {ev : Nat → Den} {ed : Nat → Nat → Prop} (h : BkS n ev ed) {mk rv rv' : Nat → Vl} (h1 : RV n ev mk rv) (h2 : ∀ r, r < n → rv' r = ev r (envf mk rv')) : ∀ r, r < n → rv' r = rv r := by
  obtain ⟨ρ, k1, k2⟩ := h.2.2.2.2
  have st : ∀ k r, r < n → ρ r < k → rv' r = rv r := by
    intro k
    induction k with
    | zero => intro r _ hr; omega
    | succ k ih =>
      intro r hr hk
      rw [h2 r hr, h1.1 r hr]
      refine h.2.1 r hr _ _ (fun a ha => ?_)
      unfold envf
      rcases ha with ⟨a1, _⟩ | ⟨r', a1, a2, rfl⟩
      · rw [if_pos a1, if_pos a1]
      · rw [if_neg (by omega), if_neg (by omega), Nat.add_sub_cancel_left]
        have := k2 r r' hr a1 a2
        exact ih r' a1 (by omega)
  exact fun r hr => st 12 r hr (k1 r hr)

