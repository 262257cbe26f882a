section
/-! BOTH: need -/
theorem need_ring {E F : Nat → Nat → Prop} {x y : Nat} (hxy : x ≠ y) (hx : x < 22) (hy : y < 22) (hE : ∀ k b, E k b → b < 22) (hF : ∀ k b, F k b → b < 22) (h1 : ∀ k b, k ≠ y → (F k b ↔ E k b)) (h2 : ∀ b, F y b ↔ b = x) (hn : ¬ ∃ k, k < 22 ∧ rch E 22 k k) : (∃ k, k < 22 ∧ rch F 22 k k) ↔ rch E 22 x y := by
  have hEl : ∀ k b, rch E 22 k b → b < 22 := fun k b q => rch_from (S := fun b => b < 22) (fun b e => hE k b e) (fun j b _ e => hE j b e) 22 b q
  have hFl : ∀ k b, rch F 22 k b → b < 22 := fun k b q => rch_from (S := fun b => b < 22) (fun b e => hF k b e) (fun j b _ e => hF j b e) 22 b q
  constructor
  · rintro ⟨k, hk, hr⟩
    by_cases c : rch E 22 x y
    · exact c
    exfalso
    have key : rch E 22 k k ∨ ((k = y ∨ rch E 22 k y) ∧ (k = x ∨ rch E 22 x k)) := by
      refine rch_from (E := F) (k := k) (S := fun b => rch E 22 k b ∨ ((k = y ∨ rch E 22 k y) ∧ (b = x ∨ rch E 22 x b))) (fun b e => ?_) (fun j b s e => ?_) 22 k hr
      · by_cases z : k = y
        · exact Or.inr ⟨Or.inl z, Or.inl ((h2 b).mp (by rw [← z]; exact e))⟩
        · exact Or.inl (rch_up ((h1 k b z).mp e))
      · by_cases z : j = y
        · rw [z] at s e
          have eb := (h2 b).mp e
          rcases s with s | ⟨s1, s2 | s2⟩
          · exact Or.inr ⟨Or.inr s, Or.inl eb⟩
          · exact absurd s2.symm hxy
          · exact absurd s2 c
        · have e2 := (h1 j b z).mp e
          rcases s with s | ⟨s1, s2 | s2⟩
          · exact Or.inl (rch_tr 22 k j b (hEl k j s) s (rch_up e2))
          · rw [s2] at e2
            exact Or.inr ⟨s1, Or.inr (rch_up e2)⟩
          · exact Or.inr ⟨s1, Or.inr (rch_tr 22 x j b (hEl x j s2) s2 (rch_up e2))⟩
    rcases key with q | ⟨q1 | q1, q2 | q2⟩
    · exact hn ⟨k, hk, q⟩
    · exact hxy (q2.symm.trans q1)
    · rw [q1] at q2; exact c q2
    · rw [q2] at q1; exact c q1
    · exact c (rch_tr 22 x k y hk q2 q1)
  · intro hr
    have key : rch F 22 x y ∨ rch F 22 x y := by
      refine rch_from (E := E) (k := x) (S := fun b => rch F 22 x b ∨ rch F 22 x y) (fun b e => Or.inl (rch_up ((h1 x b hxy).mpr e))) (fun j b s e => ?_) 22 y hr
      by_cases z : j = y
      · rw [z] at s
        exact Or.inr (s.elim id id)
      · rcases s with s | s
        · exact Or.inl (rch_tr 22 x j b (hFl x j s) s (rch_up ((h1 j b z).mpr e)))
        · exact Or.inr s
    have k2 := key.elim id id
    exact ⟨x, hx, rch_tr 22 x y x hy k2 (rch_up ((h2 x).mpr rfl))⟩
theorem EdW_lt {ed : Nat → Nat → Prop} {n W : Nat} {nd : Nat → Int} (hn : n ≤ 12) (hed : ∀ r b, r < n → ed r b → b < n ∨ (12 ≤ b ∧ b < 22)) (k b : Nat) (h : EdW ed n W nd k b) : b < 22 := by
  rcases h with ⟨h1, h2⟩ | ⟨w, h1, h2, h3, h4, h5⟩
  · have := hed k b h1 h2
    omega
  · omega
theorem EdW_up {ed : Nat → Nat → Prop} {n W : Nat} {nd nd' : Nat → Int} {w : Nat} {r : Int} (hn : n ≤ 12) (hw : w < W) (e1 : nd' w = r) (e2 : ∀ a, a ≠ w → nd' a = nd a) : (∀ k b, k ≠ 12 + w → (EdW ed n W nd' k b ↔ EdW ed n W nd k b)) ∧ (∀ b, EdW ed n W nd' (12 + w) b ↔ 0 ≤ r ∧ r < (n : Int) ∧ b = r.toNat) := by
  constructor
  · intro k b hk
    unfold EdW
    refine or_congr Iff.rfl ⟨fun ⟨a, q1, q2, q3, q4, q5⟩ => ?_, fun ⟨a, q1, q2, q3, q4, q5⟩ => ?_⟩
    · have ea := e2 a (fun z => hk (by omega))
      rw [ea] at q3 q4 q5
      exact ⟨a, q1, q2, q3, q4, q5⟩
    · have ea := e2 a (fun z => hk (by omega))
      exact ⟨a, q1, q2, by rw [ea]; exact q3, by rw [ea]; exact q4, by rw [ea]; exact q5⟩
  · intro b
    unfold EdW
    constructor
    · rintro (⟨q1, _⟩ | ⟨a, q1, q2, q3, q4, q5⟩)
      · omega
      · have ea : a = w := by omega
        rw [ea, e1] at q3 q4 q5
        exact ⟨q3, q4, q5⟩
    · rintro ⟨q1, q2, q3⟩
      exact Or.inr ⟨w, hw, rfl, by rw [e1]; exact q1, by rw [e1]; exact q2, by rw [e1]; exact q3⟩
theorem SR.nring {ed : Nat → Nat → Prop} {n W : Nat} {nd nd' : Nat → Int} {w : Nat} {r : Int} (hn : n ≤ 12) (hW : W ≤ 10) (hed : ∀ r b, r < n → ed r b → b < n ∨ (12 ≤ b ∧ b < 22)) (hw : w < W) (e1 : nd' w = r) (e2 : ∀ a, a ≠ w → nd' a = nd a) (hr : r = -1 ∨ (0 ≤ r ∧ r < (n : Int))) (hno : ¬ ∃ k, k < 22 ∧ rch (EdW ed n W nd) 22 k k) : (∃ k, k < 22 ∧ rch (EdW ed n W nd') 22 k k) ↔ (r ≠ -1 ∧ rch (EdW ed n W nd) 22 r.toNat (12 + w)) := by
  obtain ⟨u1, u2⟩ := EdW_up (ed := ed) hn hw e1 e2
  rcases hr with hr | hr
  · constructor
    · rintro ⟨k, hk, q⟩
      refine absurd ⟨k, hk, ?_⟩ hno
      refine rch_from (E := EdW ed n W nd') (k := k) (S := fun b => rch (EdW ed n W nd) 22 k b) (fun b e => ?_) (fun j b s e => ?_) 22 k q
      · by_cases z : k = 12 + w
        · rw [z] at e; have := (u2 b).mp e; omega
        · exact rch_up ((u1 k b z).mp e)
      · by_cases z : j = 12 + w
        · rw [z] at e; have := (u2 b).mp e; omega
        · have e3 := (u1 j b z).mp e
          have hj : j < 22 := by
            rcases e3 with ⟨a, _⟩ | ⟨a, a1, a2, _⟩ <;> omega
          exact rch_tr 22 k j b hj s (rch_up e3)
    · rintro ⟨q, _⟩
      exact absurd hr q
  · have := need_ring (E := EdW ed n W nd) (F := EdW ed n W nd') (x := r.toNat) (y := 12 + w) (by omega) (by omega) (by omega) (EdW_lt hn hed) (EdW_lt hn hed) u1 (fun b => (u2 b).trans ⟨fun q => q.2.2, fun q => ⟨hr.1, hr.2, q⟩⟩) hno
    exact this.trans ⟨fun q => ⟨by omega, q⟩, fun q => q.2⟩
end
