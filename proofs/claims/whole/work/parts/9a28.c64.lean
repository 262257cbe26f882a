section
/-! BOTH: what changes a cell -/
theorem hI_uI_c {σ : am_HS} {o k a b : Nat} {x : Int} (hx : rI x) : (a = o ∧ b = k ∧ hI (uI σ o k x) a b = x) ∨ (¬ (a = o ∧ b = k) ∧ hI (uI σ o k x) a b = hI σ a b) := by
  by_cases q : a = o ∧ b = k
  · exact Or.inl ⟨q.1, q.2, by rw [q.1, q.2]; exact hI_uI_e hx⟩
  · exact Or.inr ⟨q, hI_uI_n q⟩
theorem uI_comm {σ : am_HS} {o k a b : Nat} {x y : Int} (h : ¬ (a = o ∧ b = k)) : uI (uI σ o k x) a b y = uI (uI σ a b y) o k x := by
  unfold uI
  refine Prod.ext (funext fun c => funext fun d => ?_) rfl
  show (if c = a ∧ d = b then _ else if c = o ∧ d = k then _ else _) = (if c = o ∧ d = k then _ else if c = a ∧ d = b then _ else _)
  by_cases z : c = a ∧ d = b
  · rw [if_pos z, if_neg (fun q => h ⟨z.1.symm.trans q.1, z.2.symm.trans q.2⟩), if_pos z]
  · rw [if_neg z, if_neg z]
theorem SGb.ui {c : Nat} {τ : am_HS} (h : SGb c τ) {o j : Nat} {x : Int} (hx : rI x) (h1 : (o = 1 ∨ o = 10) → x ≤ (c : Int)) (h2 : o = 0 → 0 ≤ x ∧ ((j = 4 ∨ j = 5) → x ≤ 6 * (c : Int)) ∧ ((j = 6 ∨ j = 7) → x ≤ (c : Int)) ∧ (j = 3 → x ≤ 100000) ∧ (j = 23 → x ≤ 600) ∧ (j = 1 → x ≤ 6) ∧ (j = 2 → x ≤ 10)) : SGb c (uI τ o j x) := by
  obtain ⟨a1, a2, a3, a4, a5, a6, a7, a8, a9, a10⟩ := h
  refine ⟨fun k hk => ?_, fun k => ?_, ?_, ?_, ?_, ?_, ?_, ?_, ?_, ?_⟩
  · have := a1 k hk
    rcases hI_uI_c (σ := τ) (o := o) (k := j) (a := 1) (b := k) hx with ⟨e1, e2, e3⟩ | ⟨e1, e3⟩ <;> rw [e3]
    · exact h1 (by omega)
    · exact this
  · have := a2 k
    rcases hI_uI_c (σ := τ) (o := o) (k := j) (a := 10) (b := k) hx with ⟨e1, e2, e3⟩ | ⟨e1, e3⟩ <;> rw [e3]
    · exact h1 (by omega)
    · exact this
  · rcases hI_uI_c (σ := τ) (o := o) (k := j) (a := 0) (b := 4) hx with ⟨e1, e2, e3⟩ | ⟨e1, e3⟩ <;> rw [e3]
    · have := h2 e1.symm; exact ⟨this.1, this.2.1 (by omega)⟩
    · exact a3
  · rcases hI_uI_c (σ := τ) (o := o) (k := j) (a := 0) (b := 5) hx with ⟨e1, e2, e3⟩ | ⟨e1, e3⟩ <;> rw [e3]
    · have := h2 e1.symm; exact ⟨this.1, this.2.1 (by omega)⟩
    · exact a4
  · rcases hI_uI_c (σ := τ) (o := o) (k := j) (a := 0) (b := 6) hx with ⟨e1, e2, e3⟩ | ⟨e1, e3⟩ <;> rw [e3]
    · have := h2 e1.symm; exact ⟨this.1, this.2.2.1 (by omega)⟩
    · exact a5
  · rcases hI_uI_c (σ := τ) (o := o) (k := j) (a := 0) (b := 7) hx with ⟨e1, e2, e3⟩ | ⟨e1, e3⟩ <;> rw [e3]
    · have := h2 e1.symm; exact ⟨this.1, this.2.2.1 (by omega)⟩
    · exact a6
  · rcases hI_uI_c (σ := τ) (o := o) (k := j) (a := 0) (b := 3) hx with ⟨e1, e2, e3⟩ | ⟨e1, e3⟩ <;> rw [e3]
    · have := h2 e1.symm; exact ⟨this.1, this.2.2.2.1 (by omega)⟩
    · exact a7
  · rcases hI_uI_c (σ := τ) (o := o) (k := j) (a := 0) (b := 23) hx with ⟨e1, e2, e3⟩ | ⟨e1, e3⟩ <;> rw [e3]
    · have := h2 e1.symm; exact ⟨this.1, this.2.2.2.2.1 (by omega)⟩
    · exact a8
  · rcases hI_uI_c (σ := τ) (o := o) (k := j) (a := 0) (b := 1) hx with ⟨e1, e2, e3⟩ | ⟨e1, e3⟩ <;> rw [e3]
    · have := h2 e1.symm; exact ⟨this.1, this.2.2.2.2.2.1 (by omega)⟩
    · exact a9
  · rcases hI_uI_c (σ := τ) (o := o) (k := j) (a := 0) (b := 2) hx with ⟨e1, e2, e3⟩ | ⟨e1, e3⟩ <;> rw [e3]
    · have := h2 e1.symm; exact ⟨this.1, this.2.2.2.2.2.2 (by omega)⟩
    · exact a10
/-- the same put into the two fellows -/
theorem SR.w {c : Nat} {τ σ : am_HS} (h : SR c τ σ) {o j o' j' : Nat} {x y : Int} (hc : SCp o j o' j') (e : x = y) (hy : rI y) (hb : bl o ≤ x ∧ x ≤ bh o) (hg : SGb c (uI τ o j x)) (hw : ∀ k, k < 60 → SWk (uI τ o j x) k) (n1 : ¬ (o = 16 ∨ o = 2 ∨ (o = 0 ∧ j = 1) ∨ o = 3 ∨ o = 10 ∨ o = 12)) (n2 : ¬ (o' = 9 ∨ o' = 1 ∨ (47 ≤ o' ∧ j' = 3 ∧ (o' - 47) % 4 = 0))) (n3 : ¬ ((17 ≤ o ∧ o ≤ 27) ∨ o = 7 ∨ (o = 0 ∧ (j = 1 ∨ j = 2 ∨ j = 42)))) (n4 : ¬ ((o' = 6 ∨ o' = 7) ∨ (19 ≤ o' ∧ o' ≤ 36) ∨ (o' = 5 ∧ j' = 6))) : SR c (uI τ o j x) (uI σ o' j' y) := by
  obtain ⟨h1, ⟨h2, h3, h4, h5⟩, h6, b, N, n, nm, ev, ed, ls, W, P, h7⟩ := h
  exact ⟨h1.u hc e hy, ⟨h2, h3.u hb, hg, hw⟩, (h6.ul n1).ur n2, b, N, n, nm, ev, ed, ls, W, P, (h7.ul n3).ur n4⟩
theorem sm_tick {c : Nat} (hc : c ≤ 10000) {τ σ : am_HS} (h : SR c τ σ) (n : Int) : SimD c τ σ mX7_tick mX6_tick [vI n] := by
  obtain ⟨b, hb⟩ := h.fb
  have e9 : hI σ 0 9 = hI τ 0 3 := (h.1 0 3 0 9 (SCp.c1 (by omega))).symm
  have hg := h.gm hc
  have ht := h.2.1.2.2.1.2.2.2.2.2.2.1
  refine ⟨_, _, cm_tick (by decide) τ h.2.1.1 ht hg.2.2 n, cc6_tick (by decide) σ hb (h.gc hc) (by rw [e9]; exact ht) n, ?_⟩
  intro z s z' s' q q'
  rw [e9] at q'
  rcases q with ⟨a, rfl, rfl⟩ | ⟨a, a2, rfl, rfl⟩ | ⟨a, a2, rfl, rfl⟩ <;> rcases q' with ⟨a', rfl, rfl⟩ | ⟨a', a2', rfl, rfl⟩ | ⟨a', a2', rfl, rfl⟩
  · exact ⟨rfl, h.rf hc (by decide)⟩
  · omega
  · omega
  · omega
  · exact ⟨rfl, h.rf hc (by decide)⟩
  · omega
  · omega
  · omega
  · have hr : rI (hI τ 0 3 + n) := ⟨by omega, by omega⟩
    exact ⟨rfl, h.up.w (SCp.c1 (by omega)) rfl hr ⟨hr.1, hr.2⟩ (h.up.2.1.2.2.1.ui hr (by omega) (by omega)) (fun k hk => (h.2.1.2.2.2 k hk).ul (by omega)) (by omega) (by omega) (by omega) (by omega)⟩
theorem sm_leave {c : Nat} (hc : c ≤ 10000) {τ σ : am_HS} (h : SR c τ σ) (p w t : Int) : SimD c τ σ mX7_leave mX6_leave [vI p, vI w, vI t] := by
  obtain ⟨b, hb⟩ := h.fb
  have hg := h.gm hc
  have g1 := hg.1
  have g2 := hg.2.1
  refine ⟨_, _, cm_leave (by decide) τ h.2.1.1 hg.1 hg.2.1 hg.2.2 p w t, cc6_leave (by decide) σ hb (h.gc hc) p w t, ?_⟩
  intro z s z' s' q q'
  rw [h.1.P, h.1.W] at q'
  rcases q with ⟨a, rfl, rfl⟩ | ⟨a, q⟩ <;> rcases q' with ⟨a', rfl, rfl⟩ | ⟨a', q'⟩
  · exact ⟨rfl, h.rf hc (by decide)⟩
  · exact absurd a' a
  · exact absurd a a'
  · rcases q with ⟨a, rfl, rfl⟩ | ⟨a, rfl, rfl⟩ | ⟨a, a2, rfl, rfl⟩ <;> rcases q' with ⟨a', rfl, rfl⟩ | ⟨a', rfl, rfl⟩ | ⟨a', a2', rfl, rfl⟩
    · exact ⟨rfl, h.rf hc (by decide)⟩
    · omega
    · omega
    · omega
    · exact ⟨rfl, h.rf hc (by decide)⟩
    · omega
    · omega
    · omega
    · have hr : rI t := ⟨by omega, by omega⟩
      refine ⟨(h.1.lv (by omega)).symm, h.up.w (SCp.c5 (by omega)) rfl hr ⟨a, a2⟩ (h.up.2.1.2.2.1.ui hr (by omega) (by omega)) (fun k hk => (h.2.1.2.2.2 k hk).ul (by omega)) (by omega) (by omega) (by omega) (by omega)⟩
theorem sm_excuse {c : Nat} (hc : c ≤ 10000) {τ σ : am_HS} (h : SR c τ σ) (p w t : Int) (ht : t = 0 ∨ t = 1) : SimD c τ σ mX7_excuse mX6_excuse [vI p, vI w, vI t] := by
  obtain ⟨b, hb⟩ := h.fb
  have hg := h.gm hc
  have g1 := hg.1
  have g2 := hg.2.1
  refine ⟨_, _, cm_excuse (by decide) τ h.2.1.1 h.2.1.2.1 hg p w t ht, cc6_excuse (by decide) σ hb (h.gc hc) p w t ht, ?_⟩
  intro z s z' s' q q'
  rw [h.1.P, h.1.W] at q'
  rcases q with ⟨a, rfl, rfl⟩ | ⟨a, a2, rfl, rfl⟩ | ⟨a, a2, rfl, rfl⟩ <;> rcases q' with ⟨a', rfl, rfl⟩ | ⟨a', a2', rfl, rfl⟩ | ⟨a', a2', rfl, rfl⟩
  · exact ⟨rfl, h.rf hc (by decide)⟩
  · exact absurd a' a
  · exact absurd a' a
  · exact absurd a a'
  · exact ⟨rfl, h.up⟩
  · rw [h.1.ex (by omega)] at a2'
    exact absurd a2 a2'
  · exact absurd a a'
  · rw [h.1.ex (by omega)] at a2'
    exact absurd a2' a2
  · have hr : rI t := ⟨by omega, by omega⟩
    refine ⟨rfl, h.up.w (SCp.c7 (by omega)) rfl hr ⟨show (0 : Int) ≤ t by omega, show t ≤ (1 : Int) by omega⟩ (h.up.2.1.2.2.1.ui hr (by omega) (by omega)) (fun k hk => (h.2.1.2.2.2 k hk).ul (by omega)) (by omega) (by omega) (by omega) (by omega)⟩
end
