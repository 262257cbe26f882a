/-! small rows on cells -/
def fillI (σ : am_HS) (o n : Nat) (x : Int) : am_HS := (fun a b => if a = o ∧ b < n then Int32.ofInt x else σ.1 a b, σ.2)
theorem fillI_0 (σ : am_HS) (o : Nat) (x : Int) : fillI σ o 0 x = σ := by
  unfold fillI
  refine Prod.ext ?_ rfl
  funext a b
  simp
theorem fillI_s (σ : am_HS) (o n : Nat) (x : Int) : uI (fillI σ o n x) o n x = fillI σ o (n + 1) x := by
  unfold fillI uI
  refine Prod.ext ?_ rfl
  funext a b
  dsimp only
  by_cases h : a = o ∧ b = n
  · rw [if_pos h, if_pos ⟨h.1, by omega⟩]
  · rw [if_neg h]
    by_cases h2 : a = o ∧ b < n
    · rw [if_pos h2, if_pos ⟨h2.1, by omega⟩]
    · rw [if_neg h2, if_neg (fun q => by rcases (show b = n ∨ b < n by omega) with e | e; exact h ⟨q.1, e⟩; exact h2 ⟨q.1, e⟩)]
theorem hI_fill_in {σ : am_HS} {o n a b : Nat} {x : Int} (hx : rI x) (h : a = o ∧ b < n) : hI (fillI σ o n x) a b = x := by simp only [hI, fillI, if_pos h]; exact wI_e hx
theorem hI_fill_out {σ : am_HS} {o n a b : Nat} {x : Int} (h : ¬ (a = o ∧ b < n)) : hI (fillI σ o n x) a b = hI σ a b := by simp only [hI, fillI, if_neg h]
theorem uL_self (σ : am_HS) (o k : Nat) : uL σ o k (hL σ o k) = σ := by
  unfold uL hL
  refine Prod.ext rfl (Prod.ext ?_ rfl)
  funext a b
  dsimp only
  split
  · rename_i h; rw [h.1, h.2]; exact lj_t _
  · rfl
theorem uI_self (σ : am_HS) (o k : Nat) : uI σ o k (hI σ o k) = σ := by
  unfold uI hI
  refine Prod.ext ?_ rfl
  funext a b
  dsimp only
  split
  · rename_i h; rw [h.1, h.2]; exact ij_t _
  · rfl
theorem uI_uI (σ : am_HS) (o k : Nat) (x y : Int) : uI (uI σ o k x) o k y = uI σ o k y := by
  unfold uI
  refine Prod.ext ?_ rfl
  funext a b
  dsimp only
  split <;> rfl
theorem uT_uT (σ : am_HS) (a b c z U W : Int) : uT (uT σ a b c) z U W = uT σ z U W := by
  unfold uT uI uL
  refine Prod.ext ?_ (Prod.ext ?_ rfl)
  · funext a b; dsimp only; split <;> rfl
  · funext a b
    dsimp only
    split
    · rfl
    · split <;> rfl
theorem uT_out (σ : am_HS) (z : Int) : uI σ 0 48 z = uT σ z (hL σ 0 49) (hL σ 0 50) := by
  unfold uT
  rw [uL_self]
  have : hL σ 0 50 = hL (uL σ 0 49 (hL σ 0 49)) 0 50 := (hL_uL_n (by decide)).symm
  rw [uL_self]
theorem hI_uT {σ : am_HS} {z U W : Int} {a b : Nat} (h : ¬ (a = 0 ∧ b = 48)) : hI (uT σ z U W) a b = hI σ a b := by unfold uT; rw [hI_uI_n h]; rfl
theorem hI_uT_s {σ : am_HS} {z U W : Int} (h : rI z) : hI (uT σ z U W) 0 48 = z := by unfold uT; exact hI_uI_e h
theorem hL_uT {σ : am_HS} {z U W : Int} {a b : Nat} (h : ¬ (a = 0 ∧ (b = 49 ∨ b = 50))) : hL (uT σ z U W) a b = hL σ a b := by
  unfold uT
  rw [hL_uI, hL_uL_n (fun q => h ⟨q.1, Or.inr q.2⟩), hL_uL_n (fun q => h ⟨q.1, Or.inl q.2⟩)]
theorem hL_uT_u {σ : am_HS} {z U W : Int} (h : rL U) : hL (uT σ z U W) 0 49 = U := by
  unfold uT
  rw [hL_uI, hL_uL_n (by decide), hL_uL_e h]
theorem hL_uT_w {σ : am_HS} {z U W : Int} (h : rL W) : hL (uT σ z U W) 0 50 = W := by
  unfold uT
  rw [hL_uI, hL_uL_e h]
theorem nrm_1 {x : Int} (h : -1000000000 ≤ x ∧ x ≤ 1000000000) : nrm x 1 = vN x 1 := by
  have e : (Int.gcd x 1 : Int) = 1 := by
    have : Int.gcd x 1 = 1 := by simp
    omega
  unfold nrm
  rw [e, Int.ediv_one, Int.ediv_one, if_neg (by omega)]
