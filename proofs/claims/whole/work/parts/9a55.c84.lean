section
/-! THE NEW REFERENCE: its cells -/
theorem hI_mS (j o k : Nat) : hI (mS j) o k = 0 := rfl
theorem fillI_2 (σ : am_HS) (o : Nat) (x : Int) : ∀ n, (fillI σ o n x).2.2 = σ.2.2
  | 0 => by rw [fillI_0]
  | n + 1 => by rw [← fillI_s]; exact fillI_2 σ o x n
theorem hI_fill_o (σ : am_HS) {o n : Nat} {x : Int} {a k : Nat} (h : a ≠ o ∨ n ≤ k) : hI (fillI σ o n x) a k = hI σ a k := by
  induction n with
  | zero => rw [fillI_0]
  | succ n ih => rw [← fillI_s, hI_uI_n (by omega), ih (by omega)]
theorem hI_fill_i (σ : am_HS) {o n : Nat} {x : Int} {k : Nat} (hx : rI x) (h : k < n) : hI (fillI σ o n x) o k = x := by
  induction n with
  | zero => omega
  | succ n ih =>
    rw [← fillI_s]
    by_cases e : k = n
    · rw [e, hI_uI_e hx]
    · rw [hI_uI_n (by omega), ih (by omega)]
theorem hI_grp_o (σ : am_HS) {a k : Nat} : ∀ n, a ≠ 2 ∨ n ≤ k → hI (grpI σ n) a k = hI σ a k
  | 0, _ => rfl
  | n + 1, h => by
    show hI (uI (grpI σ n) 2 n (n : Int)) a k = _
    rw [hI_uI_n (by omega), hI_grp_o σ n (by omega)]
theorem hI_grp_i (σ : am_HS) {k : Nat} : ∀ n, n ≤ 100 → k < n → hI (grpI σ n) 2 k = (k : Int)
  | 0, _, h => by omega
  | n + 1, hn, h => by
    show hI (uI (grpI σ n) 2 n (n : Int)) 2 k = _
    by_cases e : k = n
    · rw [e, hI_uI_e ⟨by omega, by omega⟩]
    · rw [hI_uI_n (by omega), hI_grp_i σ n (by omega) (by omega)]
theorem tau0_r : tau0.2.2 = mH := by
  unfold tau0
  rw [grpI_r, fillI_2, fillI_2, fillI_2, mS_40]
theorem tau0_o {o k : Nat} (h2 : o ≠ 2) (h7 : o ≠ 7) (h13 : o ≠ 13) (h14 : o ≠ 14) : hI tau0 o k = 0 := by
  unfold tau0
  rw [hI_grp_o _ _ (Or.inl h2), hI_fill_o _ (Or.inl h7), hI_fill_o _ (Or.inl h14), hI_fill_o _ (Or.inl h13), hI_mS]
theorem tau0_2 (p : Nat) : hI tau0 2 p = if p < 6 then (p : Int) else 0 := by
  unfold tau0
  by_cases h : p < 6
  · rw [if_pos h, hI_grp_i _ 6 (by decide) h]
  · rw [if_neg h, hI_grp_o _ _ (Or.inr (by omega)), hI_fill_o _ (Or.inl (by decide)), hI_fill_o _ (Or.inl (by decide)), hI_fill_o _ (Or.inl (by decide)), hI_mS]
theorem tau0_7 (k : Nat) : hI tau0 7 k = if k < 10 then -1 else 0 := by
  unfold tau0
  rw [hI_grp_o _ _ (Or.inl (by decide))]
  by_cases h : k < 10
  · rw [if_pos h, hI_fill_i _ ⟨by decide, by decide⟩ h]
  · rw [if_neg h, hI_fill_o _ (Or.inr (by omega)), hI_fill_o _ (Or.inl (by decide)), hI_fill_o _ (Or.inl (by decide)), hI_mS]
theorem tau0_14 (k : Nat) : hI tau0 14 k = if k < 360 then -1 else 0 := by
  unfold tau0
  rw [hI_grp_o _ _ (Or.inl (by decide)), hI_fill_o _ (Or.inl (by decide))]
  by_cases h : k < 360
  · rw [if_pos h, hI_fill_i _ ⟨by decide, by decide⟩ h]
  · rw [if_neg h, hI_fill_o _ (Or.inr (by omega)), hI_fill_o _ (Or.inl (by decide)), hI_mS]
theorem tau0_13 (k : Nat) : hI tau0 13 k = if k < 180 then -1 else 0 := by
  unfold tau0
  rw [hI_grp_o _ _ (Or.inl (by decide)), hI_fill_o _ (Or.inl (by decide)), hI_fill_o _ (Or.inl (by decide))]
  by_cases h : k < 180
  · rw [if_pos h, hI_fill_i _ ⟨by decide, by decide⟩ h]
  · rw [if_neg h, hI_fill_o _ (Or.inr (by omega)), hI_mS]
end
