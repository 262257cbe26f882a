/-! sorting in place, from the back -/
abbrev NQ : Type := Nat × (Int × Int)
def nlt (a b : NQ) : Bool := qlt a.2 b.2
def SAr (g : Nat → Int32) (R : List NQ) : Prop := ∀ j a, R[j]? = some a → (g (R.length - 1 - j)).toInt = (a.1 : Int)
def SMid (g : Nat → Int32) (P S : List NQ) (k : Nat) : Prop := (∀ j a, P[j]? = some a → (g (k - j)).toInt = (a.1 : Int)) ∧ (∀ j a, S[j]? = some a → (g (S.length - 1 - j)).toInt = (a.1 : Int)) ∧ k = P.length + S.length
theorem SMid.start {g : Nat → Int32} {R : List NQ} (h : SAr g R) : SMid g [] R R.length := ⟨fun j a h => by simp at h, h, by simp⟩
theorem gl_lt {α : Type} {l : List α} {j : Nat} {a : α} (h : l[j]? = some a) : j < l.length := (List.getElem?_eq_some_iff.mp h).1
theorem SMid.shift {g : Nat → Int32} {P S : List NQ} {k : Nat} {a : NQ} (ha : a.1 < 3200) (h : SMid g P (a :: S) k) : SMid (upG g (S.length + 1) (a.1 : Int)) (P ++ [a]) S k := by
  obtain ⟨h1, h2, h3⟩ := h
  simp only [List.length_cons] at h3
  refine ⟨fun j b hb => ?_, fun j b hb => ?_, by simp; omega⟩
  · rcases Nat.lt_or_ge j P.length with q | q
    · rw [List.getElem?_append_left q] at hb
      rw [upG_n (by omega)]
      exact h1 j b hb
    · rw [List.getElem?_append_right q] at hb
      have hl := gl_lt hb
      simp at hl
      have e : j = P.length := by omega
      subst e
      simp at hb
      subst hb
      rw [show k - P.length = S.length + 1 by omega]
      exact upG_e ⟨by omega, by omega⟩
  · have hl := gl_lt hb
    rw [upG_n (by omega)]
    have := h2 (j + 1) b (by simpa using hb)
    rw [show (a :: S).length - 1 - (j + 1) = S.length - 1 - j by simp; omega] at this
    exact this
theorem SMid.fin {g : Nat → Int32} {P S : List NQ} {k : Nat} {y : NQ} (hy : y.1 < 3200) (h : SMid g P S k) : SAr (upG g S.length (y.1 : Int)) (P ++ y :: S) := by
  obtain ⟨h1, h2, h3⟩ := h
  intro j b hb
  have hl := gl_lt hb
  simp at hl
  rcases Nat.lt_or_ge j P.length with q | q
  · rw [List.getElem?_append_left q] at hb
    rw [upG_n (by simp; omega)]
    rw [show (P ++ y :: S).length - 1 - j = k - j by simp; omega]
    exact h1 j b hb
  · rw [List.getElem?_append_right q] at hb
    cases hj : j - P.length with
    | zero =>
      rw [hj] at hb
      simp at hb
      subst hb
      rw [show (P ++ y :: S).length - 1 - j = S.length by simp; omega]
      exact upG_e ⟨by omega, by omega⟩
    | succ i =>
      rw [hj] at hb
      have hb : S[i]? = some b := by simpa using hb
      have hi := gl_lt hb
      rw [show (P ++ y :: S).length - 1 - j = S.length - 1 - i by simp; omega, upG_n (by omega)]
      exact h2 i b hb
theorem SAr.at_rev {g : Nat → Int32} {R : List NQ} (h : SAr g R) {i : Nat} {a : NQ} (hi : R.reverse[i]? = some a) : (g i).toInt = (a.1 : Int) := by
  have hl := gl_lt hi
  simp at hl
  rw [List.getElem?_reverse hl] at hi
  have := h _ a hi
  rw [show R.length - 1 - (R.length - 1 - i) = i by omega] at this
  exact this
/-- the numbers among a chain's values -/
def numsN (l : List (Nat × Vl)) : List NQ := l.filterMap (fun q => match q.2 with | some (some v) => some (q.1, v) | _ => none)
def nums (l : List Vl) : List (Int × Int) := l.filterMap (fun v => match v with | some (some v) => some v | _ => none)
theorem nums_map (l : List (Nat × Vl)) : (numsN l).map (fun a => a.2) = nums (l.map (fun q => q.2)) := by
  induction l with
  | nil => rfl
  | cons q t ih =>
    unfold numsN nums at *
    rcases q with ⟨n, _ | _ | v⟩ <;> simp [List.filterMap_cons, ih]
theorem nums_len (l : List (Nat × Vl)) : (numsN l).length ≤ l.length := List.length_filterMap_le ..
theorem addV_nO {acc : Vl} {a b : Int} (h : acc ≠ vO) : addV acc a b ≠ vO := by
  unfold addV
  split
  · exact nrm_nO _ _
  · exact h
