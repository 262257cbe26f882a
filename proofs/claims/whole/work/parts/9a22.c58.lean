section
/-! BOTH: the two states side by side -/
/-- a cell of the reference and the class's that holds the same -/
def SCp (o j o' j' : Nat) : Prop := (o = 0 ∧ 1 ≤ j ∧ j ≤ 7 ∧ o' = 0 ∧ j' = j + 6) ∨ (o = 0 ∧ j = 23 ∧ o' = 4 ∧ j' = 1) ∨ (o = 1 ∧ j < 8 ∧ o' = 8 ∧ j' = j) ∨ (3 ≤ o ∧ o ≤ 8 ∧ j < 10 ∧ o' = 37 + j ∧ j' + 3 = o) ∨ (o = 9 ∧ j < 60 ∧ o' = 47 + 4 * j ∧ j' = 0) ∨ (o = 10 ∧ j < 60 ∧ o' = 47 + 4 * j ∧ j' = 2) ∨ (o = 15 ∧ j < 60 ∧ o' = 47 + 4 * j ∧ j' = 1) ∨ (o = 13 ∧ j < 180 ∧ o' = 49 + 4 * (j / 3) ∧ j' = j % 3) ∨ (o = 11 ∧ j < 180 ∧ o' = 48 + 4 * (j / 3) ∧ j' = j % 3) ∨ (o = 14 ∧ j < 360 ∧ o' = 50 + 4 * (j / 6) ∧ j' = j % 6)
theorem SCp.c1 {j j' : Nat} (h : 1 ≤ j ∧ j ≤ 7 ∧ j' = j + 6) : SCp 0 j 0 j' := Or.inl ⟨rfl, h.1, h.2.1, rfl, h.2.2⟩
theorem SCp.c2 : SCp 0 23 4 1 := Or.inr (Or.inl ⟨rfl, rfl, rfl, rfl⟩)
theorem SCp.c3 {j : Nat} (h : j < 8) : SCp 1 j 8 j := Or.inr (Or.inr (Or.inl ⟨rfl, h, rfl, rfl⟩))
theorem SCp.c4 {o j j' : Nat} (h : 3 ≤ o ∧ o ≤ 8 ∧ j < 10 ∧ j' + 3 = o) : SCp o j (37 + j) j' := Or.inr (Or.inr (Or.inr (Or.inl ⟨h.1, h.2.1, h.2.2.1, rfl, h.2.2.2⟩)))
theorem SCp.c5 {j : Nat} (h : j < 60) : SCp 9 j (47 + 4 * j) 0 := Or.inr (Or.inr (Or.inr (Or.inr (Or.inl ⟨rfl, h, rfl, rfl⟩))))
theorem SCp.c6 {j : Nat} (h : j < 60) : SCp 10 j (47 + 4 * j) 2 := Or.inr (Or.inr (Or.inr (Or.inr (Or.inr (Or.inl ⟨rfl, h, rfl, rfl⟩)))))
theorem SCp.c7 {j : Nat} (h : j < 60) : SCp 15 j (47 + 4 * j) 1 := Or.inr (Or.inr (Or.inr (Or.inr (Or.inr (Or.inr (Or.inl ⟨rfl, h, rfl, rfl⟩))))))
theorem SCp.c8 {k t : Nat} (h : k < 60) (ht : t < 3) : SCp 13 (3 * k + t) (47 + 4 * k + 2) t := Or.inr (Or.inr (Or.inr (Or.inr (Or.inr (Or.inr (Or.inr (Or.inl ⟨rfl, by omega, by omega, by omega⟩)))))))
theorem SCp.c9 {k t : Nat} (h : k < 60) (ht : t < 3) : SCp 11 (3 * k + t) (47 + 4 * k + 1) t := Or.inr (Or.inr (Or.inr (Or.inr (Or.inr (Or.inr (Or.inr (Or.inr (Or.inl ⟨rfl, by omega, by omega, by omega⟩))))))))
theorem SCp.c10 {k q : Nat} (h : k < 60) (hq : q < 6) : SCp 14 (6 * k + q) (47 + 4 * k + 3) q := Or.inr (Or.inr (Or.inr (Or.inr (Or.inr (Or.inr (Or.inr (Or.inr (Or.inr ⟨rfl, by omega, by omega, by omega⟩))))))))
theorem SCp.inj {o j o' j' a b a' b' : Nat} (h : SCp o j o' j') (h2 : SCp a b a' b') : (a = o ∧ b = j) ↔ (a' = o' ∧ b' = j') := by
  unfold SCp at h h2
  constructor
  · rintro ⟨rfl, rfl⟩
    rcases h with h | h | h | h | h | h | h | h | h | h <;> rcases h2 with h2 | h2 | h2 | h2 | h2 | h2 | h2 | h2 | h2 | h2 <;> omega
  · rintro ⟨rfl, rfl⟩
    rcases h with h | h | h | h | h | h | h | h | h | h <;> rcases h2 with h2 | h2 | h2 | h2 | h2 | h2 | h2 | h2 | h2 | h2 <;> omega
def SCe (τ σ : am_HS) : Prop := ∀ o j o' j', SCp o j o' j' → hI τ o j = hI σ o' j'
theorem SCe.u {τ σ : am_HS} (h : SCe τ σ) {o j o' j' : Nat} {x y : Int} (hc : SCp o j o' j') (e : x = y) (hx : rI y) : SCe (uI τ o j x) (uI σ o' j' y) := by
  subst e
  intro a b a' b' h2
  by_cases q : a = o ∧ b = j
  · have q2 := (hc.inj h2).mp q
    rw [q.1, q.2, q2.1, q2.2, hI_uI_e hx, hI_uI_e hx]
  · rw [hI_uI_n q, hI_uI_n (fun z => q ((hc.inj h2).mpr z))]
    exact h a b a' b' h2
/-- a cell of the reference that has no fellow -/
theorem SCe.ul {τ σ : am_HS} (h : SCe τ σ) {o j : Nat} {x : Int} (hn : ∀ o' j', ¬ SCp o j o' j') : SCe (uI τ o j x) σ := fun a b a' b' h2 => by
  rw [hI_uI_n (fun z => hn a' b' (by rw [← z.1, ← z.2]; exact h2))]
  exact h a b a' b' h2
theorem SCe.ur {τ σ : am_HS} (h : SCe τ σ) {o j : Nat} {x : Int} (hn : ∀ o' j', ¬ SCp o' j' o j) : SCe τ (uI σ o j x) := fun a b a' b' h2 => by
  rw [hI_uI_n (fun z => hn a b (by rw [← z.1, ← z.2]; exact h2))]
  exact h a b a' b' h2
theorem SCp.keep {o j o' j' : Nat} (h : SCp o j o' j') : keepM o j := by
  unfold SCp at h
  unfold keepM
  omega
theorem SCp.fr {o j o' j' : Nat} (h : SCp o j o' j') : ¬ (o' = 16 ∨ o' = 17 ∨ o' = 18 ∨ (o' = 5 ∧ j' = 6)) := by
  unfold SCp at h
  omega
theorem SCe.fr {τ σ s s' : am_HS} (h : SCe τ σ) (f : FrM τ s) (g : FrR σ s') : SCe s s' := fun o j o' j' hc => by
  rw [f.2 o j hc.keep, g.2 o' j' hc.fr]
  exact h o j o' j' hc
end
