/-! THE REFERENCE: what lasts, and what is scratch -/
def keepM (o j : Nat) : Prop := (1 ≤ o ∧ o ≤ 27) ∨ (o = 0 ∧ (j ≤ 7 ∨ j = 23 ∨ j = 42))
def FrM (σ s : am_HS) : Prop := s.2.2 = σ.2.2 ∧ ∀ o j, keepM o j → hI s o j = hI σ o j
theorem FrM.rf (σ : am_HS) : FrM σ σ := ⟨rfl, fun _ _ _ => rfl⟩
theorem FrM.tr {σ s u : am_HS} (h : FrM σ s) (h2 : FrM s u) : FrM σ u := ⟨h2.1.trans h.1, fun o j k => (h2.2 o j k).trans (h.2 o j k)⟩
theorem FrM.a {σ s : am_HS} (h : FrM σ s) {o j : Nat} (h1 : 1 ≤ o) (h2 : o ≤ 27) : hI s o j = hI σ o j := h.2 o j (Or.inl ⟨h1, h2⟩)
theorem EvF.fr {σ s : am_HS} {Zn Zr : Nat → Prop} (f : EvF σ s Zn Zr) : FrM σ s := ⟨f.1, fun o j h => f.I (by unfold keepM at h; omega) (by unfold keepM at h; omega) (by unfold keepM at h; omega) (by unfold keepM at h; omega)⟩
theorem FrM_uT (σ : am_HS) (z U W : Int) : FrM σ (uT σ z U W) := (EvF_uT σ z U W (fun _ => False) (fun _ => False)).fr
theorem FrM_uI {σ : am_HS} {o k : Nat} {x : Int} (h : ¬ keepM o k) : FrM σ (uI σ o k x) := ⟨rfl, fun a b hk => hI_uI_n (fun q => h (by rw [← q.1, ← q.2]; exact hk))⟩
theorem FrM_uL (σ : am_HS) (o k : Nat) (x : Int) : FrM σ (uL σ o k x) := ⟨rfl, fun _ _ _ => rfl⟩
theorem FrM_fill {σ : am_HS} {o n : Nat} {x : Int} (h : 28 ≤ o) : FrM σ (fillI σ o n x) := ⟨rfl, fun a b hk => hI_fill_out (fun q => by unfold keepM at hk; omega)⟩
theorem FrM_hs (σ : am_HS) (G : Nat → Nat) : FrM σ (hs28 σ G) := ⟨rfl, fun a b hk => hs28_o (by unfold keepM at hk; omega)⟩
theorem FrM_put {σ s : am_HS} (h : FrM σ s) (o k : Nat) (x : Int) : FrM (uI σ o k x) (uI s o k x) := by
  refine ⟨h.1, fun a b hk => ?_⟩
  by_cases q : a = o ∧ b = k
  · rw [q.1, q.2]
    unfold hI uI
    simp
  · rw [hI_uI_n q, hI_uI_n q]
    exact h.2 a b hk
theorem FrM.rg {σ s : am_HS} (f : FrM σ s) (hb : rgM σ) : rgM s := by
  intro o j
  by_cases h : 1 ≤ o ∧ o ≤ 27
  · rw [f.a h.1 h.2]; exact hb o j
  · have hr := hI_r s o j
    unfold rI at hr
    have e1 : bl o = -2147483648 := by unfold bl; split <;> omega
    have e2 : bh o = 2147483647 := by unfold bh; split <;> omega
    rw [e1, e2]
    exact hr
theorem FrM.rc {N n : Nat} {lo hi ρ : Nat → Nat} {ev : Nat → Den} {td : TD} {σ s : am_HS} (f : FrM σ s) (h : RC N n lo hi ρ ev td σ) : RC N n lo hi ρ ev td s := by
  obtain ⟨h1, h2, h3, h4, h5, h6⟩ := h
  refine ⟨h1, h2, (f.2 0 42 (Or.inr ⟨rfl, Or.inr (Or.inr rfl)⟩)).trans h3, ?_, fun r hr => ⟨(f.a (by decide) (by decide)).trans (h5 r hr).1, (h5 r hr).2⟩, h6⟩
  rw [← h4]
  unfold tdM
  simp only [f.a (o := 17) (by decide) (by decide), f.a (o := 18) (by decide) (by decide), f.a (o := 19) (by decide) (by decide), f.a (o := 20) (by decide) (by decide), f.a (o := 22) (by decide) (by decide)]
theorem FrM.mt {σ s : am_HS} (f : FrM σ s) (p w : Nat) (t : Int) : mtM s p w t = mtM σ p w t := mtM_congr (fun o j h1 h2 => f.a h1 (by omega)) p w t
/-- behind 'begins' -/
def bg (σ : am_HS) (p : Int) : am_HS := fillI (fillI (uI σ 0 51 p) 32 10 (-1)) 33 12 (-1)
theorem FrM_bg (σ : am_HS) (p : Int) : FrM σ (bg σ p) := ((FrM_uI (by unfold keepM; omega)).tr (FrM_fill (by omega))).tr (FrM_fill (by omega))
theorem bg_rs {σ : am_HS} (hf : σ.2.2 = mH) (hb : rgM σ) {p : Nat} (hp : p < 6) : RS0 p (fun w => mtM σ p w (-1)) (bg σ p) := by
  have f := FrM_bg σ p
  refine ⟨f.1.trans hf, f.rg hb, hp, ?_, fun w hw => ?_⟩
  · unfold bg
    rw [hI_fill_out (by omega), hI_fill_out (by omega)]
    exact hI_uI_e ⟨by omega, by omega⟩
  · have e : hI (bg σ p) 32 w = -1 := by
      unfold bg
      rw [hI_fill_out (by omega)]
      exact hI_fill_in ⟨by omega, by omega⟩ ⟨rfl, hw⟩
    rw [e, f.mt]
    exact ⟨by omega, rfl⟩
theorem bg_mem {σ : am_HS} {n : Nat} (hn : n ≤ 12) (rvl : Nat → Vl) (p : Int) : Mem n rvl (bg σ p) := by
  intro r hr h0
  exfalso
  unfold bg at h0
  rw [hI_fill_in ⟨by omega, by omega⟩ ⟨rfl, by omega⟩] at h0
  omega
/-- whether a value is a number, that or more -/
def atL (v : Vl) (m : Int) : Prop := match v with
  | some (some q) => m * q.2 ≤ q.1
  | _ => False
theorem mtM_ok (σ : am_HS) (p w : Nat) {t : Int} (h : t ≤ 20) : vok (mtM σ p w t) := by
  unfold mtM
  split
  · trivial
  split
  · rename_i h2
    unfold mkdS at h2
    unfold mvM mkvS
    split
    · rename_i h3
      rw [if_pos h3] at h2
      exact nrm_ok (by omega)
    · exact nrm_ok (by omega)
  · exact vokI (by split <;> omega)
