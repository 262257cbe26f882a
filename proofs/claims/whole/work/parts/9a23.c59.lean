section
/-! BOTH: what holds between the calls -/
/-- the counts, after c calls -/
def SGb (c : Nat) (τ : am_HS) : Prop := (∀ k, k < 8 → hI τ 1 k ≤ (c : Int)) ∧ (∀ k, hI τ 10 k ≤ (c : Int)) ∧ (0 ≤ hI τ 0 4 ∧ hI τ 0 4 ≤ 6 * (c : Int)) ∧ (0 ≤ hI τ 0 5 ∧ hI τ 0 5 ≤ 6 * (c : Int)) ∧ (0 ≤ hI τ 0 6 ∧ hI τ 0 6 ≤ (c : Int)) ∧ (0 ≤ hI τ 0 7 ∧ hI τ 0 7 ≤ (c : Int)) ∧ (0 ≤ hI τ 0 3 ∧ hI τ 0 3 ≤ 100000) ∧ (0 ≤ hI τ 0 23 ∧ hI τ 0 23 ≤ 600) ∧ (0 ≤ hI τ 0 1 ∧ hI τ 0 1 ≤ 6) ∧ (0 ≤ hI τ 0 2 ∧ hI τ 0 2 ≤ 10)
/-- a sheet of the reference -/
def SWk (τ : am_HS) (k : Nat) : Prop := (hI τ 3 (k % 10) = 3 → ∀ t, t < 3 → hI τ 13 (3 * k + t) < 0) ∧ (hI τ 3 (k % 10) ≠ 3 → ∀ q, q < 6 → hI τ 14 (6 * k + q) < 0) ∧ (hI τ 3 (k % 10) ≠ 2 → hI τ 13 (3 * k + 1) < 0 ∧ hI τ 13 (3 * k + 2) < 0) ∧ (hI τ 3 (k % 10) = 2 → hI τ 10 k ≤ 3 ∧ ∀ t : Nat, t < 3 → (0 ≤ hI τ 13 (3 * k + t) → (t : Int) < hI τ 10 k) ∧ ((t : Int) + 1 < hI τ 10 k → 0 ≤ hI τ 13 (3 * k + t))) ∧ (hI τ 0 2 ≤ ((k % 10 : Nat) : Int) → hI τ 10 k = 0 ∧ (∀ t, t < 3 → hI τ 13 (3 * k + t) < 0) ∧ ∀ q, q < 6 → hI τ 14 (6 * k + q) < 0)
/-- what is not the same cell by cell -/
def SX (τ σ : am_HS) : Prop := (∀ k, k < 60 → -1 ≤ hI σ (47 + 4 * k) 3 ∧ hI σ (47 + 4 * k) 3 ≤ 5) ∧ (∀ j, hI τ 16 j = hI σ 9 j % 256 ∧ -128 ≤ hI σ 9 j ∧ hI σ 9 j ≤ 127) ∧ (∀ p : Nat, (p : Int) < hI τ 0 1 → hI σ 1 p = hI τ 2 p) ∧ (∀ p : Nat, p < 6 → hI τ 0 1 ≤ (p : Int) → hI τ 2 p = (p : Int)) ∧ (∀ k, k < 60 → hI τ 3 (k % 10) = 1 → 0 < hI τ 10 k → hI τ 12 (3 * k) = hI σ (47 + 4 * k) 3)
def SBk (b N n : Nat) (nm : Nat → Int) (ev : Nat → Den) (ed : Nat → Nat → Prop) (ls : Prop) (W P : Nat) (τ σ : am_HS) : Prop := hI τ 0 42 = (N : Int) ∧ MB N n nm ev ed ls τ ∧ σ.2.2 = cH b ∧ b < 2 ∧ CB b n nm ev ed ls σ ∧ BkS n ev ed ∧ hI τ 0 1 = (P : Int) ∧ hI τ 0 2 = (W : Int) ∧ RKc σ ∧ (∀ r a, r < n → ed r (12 + a) → a < W) ∧ (¬ ∃ k, k < 22 ∧ rch (EdW ed n W (fun w => hI τ 7 w)) 22 k k) ∧ ∀ w, w < 10 → hI τ 7 w < (n : Int) ∧ (W ≤ w → hI τ 7 w = -1)
/-- the reference at τ, the class at σ, after c calls -/
def SR (c : Nat) (τ σ : am_HS) : Prop := SCe τ σ ∧ (τ.2.2 = mH ∧ rgM τ ∧ SGb c τ ∧ ∀ k, k < 60 → SWk τ k) ∧ SX τ σ ∧ ∃ (b N n : Nat) (nm : Nat → Int) (ev : Nat → Den) (ed : Nat → Nat → Prop) (ls : Prop) (W P : Nat), SBk b N n nm ev ed ls W P τ σ
theorem SGb.up {c : Nat} {τ : am_HS} (h : SGb c τ) : SGb (c + 1) τ := by
  obtain ⟨h1, h2, h3, h4, h5, h6, h7⟩ := h
  refine ⟨fun k hk => ?_, fun k => ?_, ?_, ?_, ?_, ?_, h7⟩
  · have := h1 k hk; omega
  · have := h2 k; omega
  all_goals omega
theorem SR.up {c : Nat} {τ σ : am_HS} (h : SR c τ σ) : SR (c + 1) τ σ := ⟨h.1, ⟨h.2.1.1, h.2.1.2.1, h.2.1.2.2.1.up, h.2.1.2.2.2⟩, h.2.2⟩
theorem SGb.fr {c : Nat} {τ s : am_HS} (h : SGb c τ) (f : FrM τ s) : SGb c s := by
  unfold SGb
  rw [f.k (o := 0) (j := 1) (keepF (by decide)), f.k (o := 0) (j := 2) (keepF (by decide)), f.k (o := 0) (j := 3) (keepF (by decide)), f.k (o := 0) (j := 4) (keepF (by decide)), f.k (o := 0) (j := 5) (keepF (by decide)), f.k (o := 0) (j := 6) (keepF (by decide)), f.k (o := 0) (j := 7) (keepF (by decide)), f.k (o := 0) (j := 23) (keepF (by decide))]
  exact ⟨fun k hk => by rw [f.k (o := 1) (keepA (by decide) (by decide))]; exact h.1 k hk, fun k => by rw [f.k (o := 10) (keepA (by decide) (by decide))]; exact h.2.1 k, h.2.2⟩
theorem SWk.of {τ s : am_HS} {k : Nat} (h : SWk τ k) (e3 : hI s 3 (k % 10) = hI τ 3 (k % 10)) (e13 : ∀ t, t < 3 → hI s 13 (3 * k + t) = hI τ 13 (3 * k + t)) (e14 : ∀ q, q < 6 → hI s 14 (6 * k + q) = hI τ 14 (6 * k + q)) (e10 : hI s 10 k = hI τ 10 k) (e2 : hI s 0 2 = hI τ 0 2) : SWk s k := by
  unfold SWk
  rw [e3, e10, e2, e13 1 (by decide), e13 2 (by decide)]
  obtain ⟨h1, h2, h3, h4, h5⟩ := h
  exact ⟨fun q t ht => by rw [e13 t ht]; exact h1 q t ht, fun q t ht => by rw [e14 t ht]; exact h2 q t ht, h3, fun q => ⟨(h4 q).1, fun t ht => by rw [e13 t ht]; exact (h4 q).2 t ht⟩, fun q => ⟨(h5 q).1, fun t ht => by rw [e13 t ht]; exact (h5 q).2.1 t ht, fun t ht => by rw [e14 t ht]; exact (h5 q).2.2 t ht⟩⟩
theorem SWk.fr {τ s : am_HS} {k : Nat} (h : SWk τ k) (f : FrM τ s) : SWk s k := h.of (f.k (keepA (by decide) (by decide))) (fun _ _ => f.k (keepA (by decide) (by decide))) (fun _ _ => f.k (keepA (by decide) (by decide))) (f.k (keepA (by decide) (by decide))) (f.k (keepF (by decide)))
theorem SX.fr {τ σ s s' : am_HS} (h : SX τ σ) (f : FrM τ s) (g : FrR σ s') : SX s s' := by
  unfold SX
  rw [f.k (o := 0) (j := 1) (keepF (by decide))]
  obtain ⟨h1, h2, h3, h4, h5⟩ := h
  refine ⟨fun k hk => ?_, fun j => ?_, fun p hp => ?_, fun p hp => ?_, fun k hk => ?_⟩
  · rw [g.2 _ _ (by omega)]; exact h1 k hk
  · rw [g.2 _ _ (by omega), f.k (o := 16) (keepA (by decide) (by decide))]; exact h2 j
  · rw [g.2 _ _ (by omega), f.k (o := 2) (keepA (by decide) (by decide))]; exact h3 p hp
  · rw [f.k (o := 2) (keepA (by decide) (by decide))]; exact h4 p hp
  · rw [g.2 _ _ (by omega), f.k (o := 3) (keepA (by decide) (by decide)), f.k (o := 10) (keepA (by decide) (by decide)), f.k (o := 12) (keepA (by decide) (by decide))]; exact h5 k hk
theorem SBk.of {b N n : Nat} {nm : Nat → Int} {ev : Nat → Den} {ed : Nat → Nat → Prop} {ls : Prop} {W P : Nat} {τ σ s s' : am_HS} (h : SBk b N n nm ev ed ls W P τ σ) (e : ∀ o j, (17 ≤ o ∧ o ≤ 27) ∨ o = 7 ∨ (o = 0 ∧ (j = 1 ∨ j = 2 ∨ j = 42)) → hI s o j = hI τ o j) (e2 : s'.2.2 = σ.2.2) (k2 : RKc s') (e3 : ∀ o j, (o = 6 ∨ o = 7) ∨ (19 ≤ o ∧ o ≤ 36) → hI s' o j = hI σ o j) : SBk b N n nm ev ed ls W P s s' := by
  obtain ⟨h1, h2, h3, h4, h5, h6, h7, h8, h9, h10, h11, h12⟩ := h
  refine ⟨(e 0 42 (by omega)).trans h1, h2.of (fun o k hk => e o k (by unfold bkc at hk; omega)), e2.trans h3, h4, h5.of (fun o k hk => e3 o k (by unfold cbc at hk; omega)), h6, (e 0 1 (by omega)).trans h7, (e 0 2 (by omega)).trans h8, k2, h10, ?_, fun w hw => ?_⟩
  · rw [show (fun w => hI s 7 w) = fun w => hI τ 7 w from funext fun w => e 7 w (by omega)]
    exact h11
  · rw [e 7 w (by omega)]
    exact h12 w hw
theorem SBk.fr {b N n : Nat} {nm : Nat → Int} {ev : Nat → Den} {ed : Nat → Nat → Prop} {ls : Prop} {W P : Nat} {τ σ s s' : am_HS} (h : SBk b N n nm ev ed ls W P τ σ) (f : FrM τ s) (g : FrR σ s') (k : RKc s') : SBk b N n nm ev ed ls W P s s' := h.of (fun o j q => f.2 o j (by unfold keepM; omega)) g.1 k (fun o j q => g.2 o j (by omega))
theorem SR.fr {c : Nat} {τ σ s s' : am_HS} (h : SR c τ σ) (f : FrM τ s) (g : FrR σ s') (k : RKc s') : SR c s s' := by
  obtain ⟨h1, ⟨h2, h3, h4, h5⟩, h6, b, N, n, nm, ev, ed, ls, W, P, h7⟩ := h
  exact ⟨h1.fr f g, ⟨f.1.trans h2, f.rg h3, h4.fr f, fun k hk => (h5 k hk).fr f⟩, h6.fr f g, b, N, n, nm, ev, ed, ls, W, P, h7.fr f g k⟩
theorem RKc.u {σ : am_HS} (h : RKc σ) {o j : Nat} {x : Int} (ho : ¬ (o = 5 ∧ j = 6)) : RKc (uI σ o j x) := h.of rfl (hI_uI_n (fun z => ho ⟨z.1.symm, z.2.symm⟩))
theorem SBk.ul {b N n : Nat} {nm : Nat → Int} {ev : Nat → Den} {ed : Nat → Nat → Prop} {ls : Prop} {W P : Nat} {τ σ : am_HS} (h : SBk b N n nm ev ed ls W P τ σ) {o j : Nat} {x : Int} (hn : ¬ ((17 ≤ o ∧ o ≤ 27) ∨ o = 7 ∨ (o = 0 ∧ (j = 1 ∨ j = 2 ∨ j = 42)))) : SBk b N n nm ev ed ls W P (uI τ o j x) σ := h.of (fun a c q => hI_uI_n (by omega)) rfl h.2.2.2.2.2.2.2.2.1 (fun _ _ _ => rfl)
theorem SBk.ur {b N n : Nat} {nm : Nat → Int} {ev : Nat → Den} {ed : Nat → Nat → Prop} {ls : Prop} {W P : Nat} {τ σ : am_HS} (h : SBk b N n nm ev ed ls W P τ σ) {o j : Nat} {x : Int} (hn : ¬ ((o = 6 ∨ o = 7) ∨ (19 ≤ o ∧ o ≤ 36) ∨ (o = 5 ∧ j = 6))) : SBk b N n nm ev ed ls W P τ (uI σ o j x) := h.of (fun _ _ _ => rfl) rfl (h.2.2.2.2.2.2.2.2.1.u (by omega)) (fun a c q => hI_uI_n (by omega))
theorem SX.ul {τ σ : am_HS} (h : SX τ σ) {o j : Nat} {x : Int} (hn : ¬ (o = 16 ∨ o = 2 ∨ (o = 0 ∧ j = 1) ∨ o = 3 ∨ o = 10 ∨ o = 12)) : SX (uI τ o j x) σ := by
  unfold SX
  rw [hI_uI_n (a := 0) (b := 1) (by omega)]
  obtain ⟨h1, h2, h3, h4, h5⟩ := h
  refine ⟨h1, fun j => ?_, fun p hp => ?_, fun p hp => ?_, fun k hk => ?_⟩
  · rw [hI_uI_n (by omega)]; exact h2 j
  · rw [hI_uI_n (by omega)]; exact h3 p hp
  · rw [hI_uI_n (by omega)]; exact h4 p hp
  · rw [hI_uI_n (by omega), hI_uI_n (by omega), hI_uI_n (by omega)]; exact h5 k hk
theorem SX.ur {τ σ : am_HS} (h : SX τ σ) {o j : Nat} {x : Int} (hn : ¬ (o = 9 ∨ o = 1 ∨ (47 ≤ o ∧ j = 3 ∧ (o - 47) % 4 = 0))) : SX τ (uI σ o j x) := by
  unfold SX
  obtain ⟨h1, h2, h3, h4, h5⟩ := h
  refine ⟨fun k hk => ?_, fun j => ?_, fun p hp => ?_, h4, fun k hk => ?_⟩
  · rw [hI_uI_n (by omega)]; exact h1 k hk
  · rw [hI_uI_n (by omega)]; exact h2 j
  · rw [hI_uI_n (by omega)]; exact h3 p hp
  · rw [hI_uI_n (by omega)]; exact h5 k hk
theorem SWk.ul {τ : am_HS} {k : Nat} (h : SWk τ k) {o j : Nat} {x : Int} (hn : ¬ (o = 3 ∨ o = 13 ∨ o = 14 ∨ o = 10 ∨ (o = 0 ∧ j = 2))) : SWk (uI τ o j x) k := h.of (hI_uI_n (by omega)) (fun _ _ => hI_uI_n (by omega)) (fun _ _ => hI_uI_n (by omega)) (hI_uI_n (by omega)) (hI_uI_n (by omega))
/-- a refusal of both -/
theorem SR.rf {c : Nat} (hc : c ≤ 10000) {τ σ : am_HS} (h : SR c τ σ) {k : Nat} (hk : k < 8) : SR (c + 1) (uI τ 1 k (hI τ 1 k + 1)) (uI σ 8 k (hI σ 8 k + 1)) := by
  obtain ⟨h1, ⟨h2, h3, h4, h5⟩, h6, b, N, n, nm, ev, ed, ls, W, P, h7⟩ := h
  have e : hI τ 1 k = hI σ 8 k := h1 1 k 8 k (SCp.c3 hk)
  have g := h4.1 k hk
  have g0 : 0 ≤ hI τ 1 k := (h3 1 k).1
  have hr : rI (hI σ 8 k + 1) := ⟨by omega, by omega⟩
  refine ⟨h1.u (SCp.c3 hk) (by rw [e]) hr, ⟨h2, h3.u ⟨show (0 : Int) ≤ _ by omega, show _ ≤ (100000 : Int) by omega⟩, ?_, fun k hk => (h5 k hk).ul (by omega)⟩, (h6.ul (by omega)).ur (by omega), b, N, n, nm, ev, ed, ls, W, P, (h7.ul (by omega)).ur (by omega)⟩
  have h4' := h4.up
  obtain ⟨a1, a2, a3⟩ := h4'
  unfold SGb
  rw [hI_uI_n (a := 0) (b := 1) (by omega), hI_uI_n (a := 0) (b := 2) (by omega), hI_uI_n (a := 0) (b := 3) (by omega), hI_uI_n (a := 0) (b := 4) (by omega), hI_uI_n (a := 0) (b := 5) (by omega), hI_uI_n (a := 0) (b := 6) (by omega), hI_uI_n (a := 0) (b := 7) (by omega), hI_uI_n (a := 0) (b := 23) (by omega)]
  refine ⟨fun q hq => ?_, fun q => ?_, a3⟩
  · by_cases z : q = k
    · rw [z, hI_uI_e (by rw [e]; exact hr)]
      omega
    · rw [hI_uI_n (by omega)]
      exact a1 q hq
  · rw [hI_uI_n (by omega)]
    exact a2 q
/-- a refusal behind a reckoning -/
theorem SR.rfr {c : Nat} (hc : c ≤ 10000) {τ σ s u s' : am_HS} (h : SR c τ σ) {k : Nat} (hk : k < 8) (f : FrM (uI τ 1 k (hI τ 1 k + 1)) s) (g : FrR σ u) (r : RKc u) (e : s' = uI u 8 k (hI u 8 k + 1)) : SR (c + 1) s s' := by
  rw [e]
  have h2 := (h.fr (FrM.rf τ) g r).rf hc hk
  exact h2.fr f (FrR.rf _) (h2.2.2.2.elim fun _ ⟨_, _, _, _, _, _, _, _, q⟩ => q.2.2.2.2.2.2.2.2.1)
end
