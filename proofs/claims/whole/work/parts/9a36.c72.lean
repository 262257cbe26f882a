section
/-! BOTH: least, range -/
/-- not excused and not marked -/
def opT (τ : am_HS) (p w : Nat) : Prop := hI τ 15 (10 * p + w) ≠ 1 ∧ ¬ mkM τ p w
theorem SR.oe {c : Nat} {τ σ : am_HS} (h : SR c τ σ) {p w : Nat} (hp : p < 6) (hw : w < 10) : opT τ p w ↔ oeC σ p w := by
  have b15 : 0 ≤ hI τ 15 (10 * p + w) ∧ hI τ 15 (10 * p + w) ≤ 1 := h.2.1.2.1 15 _
  unfold opT oeC
  rw [h.1.ex (by omega), h.mkd hp hw]
  exact and_congr ⟨fun y => by omega, fun y => by omega⟩ Iff.rfl
theorem mtM_open {τ : am_HS} {p w : Nat} (h : opT τ p w) (v : Nat) : mtM τ p w (v : Int) = vN (v : Int) 1 := by
  unfold mtM
  rw [if_neg h.1, if_neg h.2]
  by_cases z : (0 : Int) < (v : Int)
  · rw [if_pos z]
  · rw [if_neg z]
    have : v = 0 := by omega
    rw [this]
    rfl
theorem mtM_up {τ : am_HS} {p w : Nat} (h : opT τ p w) (v : Nat) : (fun a => mtM τ p a (tk1 w (v : Int) a)) = upX (mkP τ p) w (vN (v : Int) 1) := funext fun a => by
  unfold tk1 upX
  by_cases e : a = w
  · rw [if_pos e, if_pos e, e]
    exact mtM_open h v
  · rw [if_neg e, if_neg e]
theorem first_uni {A : Nat → Prop} {m z z' : Int} (h : (∃ v : Nat, (v : Int) ≤ m ∧ A v ∧ (∀ u : Nat, u < v → ¬ A u) ∧ z = (v : Int)) ∨ (∀ u : Nat, (u : Int) ≤ m → ¬ A u) ∧ z = -9) (h' : (∃ v : Nat, (v : Int) ≤ m ∧ A v ∧ (∀ u : Nat, u < v → ¬ A u) ∧ z' = (v : Int)) ∨ (∀ u : Nat, (u : Int) ≤ m → ¬ A u) ∧ z' = -9) : z = z' := by
  rcases h with ⟨v, a1, a2, a3, a4⟩ | ⟨a1, a2⟩ <;> rcases h' with ⟨v', b1, b2, b3, b4⟩ | ⟨b1, b2⟩
  · have x1 : ¬ v < v' := fun y => b3 v y a2
    have x2 : ¬ v' < v := fun y => a3 v' y b2
    omega
  · exact absurd a2 (b1 v a1)
  · exact absurd b2 (a1 v' b1)
  · rw [a2, b2]
theorem sm_least {c : Nat} (hc : c ≤ 10000) {τ σ : am_HS} (h : SR c τ σ) (p r w q : Int) : SimD c τ σ mX7_least mX6_least [vI p, vI r, vI w, vI q] := by
  obtain ⟨b, N, n, nm, ev, ed, ls, W, P, h7⟩ := h.2.2.2
  obtain ⟨lo, hi, ρ, hR⟩ := h7.2.1.bk h7.1
  have hg := h.gm hc
  have g1 := hg.1
  have g2 := hg.2.1
  have hW : hI τ 0 2 = (W : Int) := h7.2.2.2.2.2.2.2.1
  have hP : hI τ 0 1 = (P : Int) := h7.2.2.2.2.2.2.1
  have hS := h7.2.2.2.2.2.1
  refine ⟨_, _, cm_least (by decide) τ h.2.1.1 h.2.1.2.1 hg hR h7.2.1.2.2.1 (rv := fun p tk => rvC n ev (fun w => mtM τ p w (tk w))) (fun p tk _ ht => rvC_RV hS (fun w => mtM_ok τ p w (ht w).2)) p r w q, cc6_least (by decide) σ (h.cg hc h7) (mk := mkP τ) (h.mko (by omega) (by omega)) p r w q, ?_⟩
  intro z s z' s' y y'
  rw [h.1.P, h.1.W] at y'
  rcases y with ⟨a, rfl, rfl⟩ | ⟨a, y⟩ <;> rcases y' with ⟨a', rfl, rfl⟩ | ⟨a', y'⟩
  · exact ⟨rfl, h.rf hc (by decide)⟩
  · exact absurd a' a
  · exact absurd a a'
  obtain ⟨pn, hpn⟩ : ∃ pn : Nat, p.toNat = pn := ⟨_, rfl⟩
  obtain ⟨wn, hwn⟩ : ∃ wn : Nat, w.toNat = wn := ⟨_, rfl⟩
  rw [hpn, hwn] at y y'
  have hp6 : pn < 6 := by clear y y'; omega
  have hw10 : wn < 10 := by clear y y'; omega
  have eo := h.oe hp6 hw10
  unfold opT at eo
  rw [h.1.mo hw10] at y'
  rcases y with ⟨a1, rfl, rfl⟩ | ⟨a1, a2, rfl, rfl⟩ | ⟨a1, a2, rfl, rfl⟩ | ⟨a1, a2, a3, y, f⟩ <;> rcases y' with ⟨b1, rfl, rfl⟩ | ⟨b1, b2, rfl, rfl⟩ | ⟨b1, b2, rfl, rfl⟩ | ⟨b1, b2, b3, y', g, k⟩
  · exact ⟨rfl, h.rf hc (by decide)⟩
  · exact absurd (eo.mpr b1) a1
  · exact absurd (eo.mpr b1) a1
  · exact absurd (eo.mpr b1) a1
  · exact absurd (eo.mp a1) b1
  · exact ⟨rfl, h.rf hc (by decide)⟩
  · exact absurd a2 (by omega)
  · exact absurd a2 (Int.not_lt.mpr b2)
  · exact absurd (eo.mp a1) b1
  · exact absurd a2 (by omega)
  · exact ⟨rfl, h.rf hc (by decide)⟩
  · exact absurd a2 (Int.not_lt.mpr b3)
  · exact absurd (eo.mp a1) b1
  · exact absurd b2 (Int.not_lt.mpr a2)
  · exact absurd b2 (Int.not_lt.mpr a3)
  · refine ⟨?_, (h.fr f g k).up⟩
    have e : ∀ v : Nat, rvC n ev (fun a => mtM τ pn a (tk1 wn (v : Int) a)) = rvC n ev (upX (mkP τ pn) wn (vN (v : Int) 1)) := fun v => by rw [mtM_up a1 v]
    simp only [e] at y
    exact first_uni (A := fun v => atL (rvC n ev (upX (mkP τ pn) wn (vN (v : Int) 1)) r.toNat) q) y y'
end
