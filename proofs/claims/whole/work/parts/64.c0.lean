/-! THE CLASS: its cells -/
/-- cell 0 is its object; 1 groups, 2 works, 3 sheets, 4 reader, 5 reckoner, 6 and 7 books, 8 refusals, 9 to 12 the reader's rows, 13 to 18 the reckoner's, 19 to 36 the books', 37 to 46 works, from 47 on sheets with three rows each -/
def lc_l : List (Nat ⊕ (Nat × Nat)) := [.inl 5, .inr (0, 6), .inr (4, 10), .inr (5, 60), .inl 1, .inl 2, .inl 0, .inl 0, .inr (0, 8), .inr (1, 600), .inr (0, 601), .inr (0, 601), .inr (0, 601), .inr (3, 22), .inr (3, 22), .inr (3, 602), .inr (0, 10), .inr (0, 3), .inr (0, 3), .inr (0, 12), .inr (0, 12), .inr (0, 12), .inr (0, 12), .inr (0, 12), .inr (0, 12), .inr (0, 1200), .inr (0, 1200), .inr (0, 1200), .inr (0, 12), .inr (0, 12), .inr (0, 12), .inr (0, 12), .inr (0, 12), .inr (0, 12), .inr (0, 1200), .inr (0, 1200), .inr (0, 1200), .inl 4, .inl 4, .inl 4, .inl 4, .inl 4, .inl 4, .inl 4, .inl 4, .inl 4, .inl 4]
def lc : am_L := fun o => if o < 47 then lc_l.getD o (.inr (99, 0)) else if o < 287 then (match (o - 47) % 4 with
  | 0 => .inl 3
  | 1 => .inr (0, 3)
  | 2 => .inr (0, 3)
  | _ => .inr (0, 6)) else .inr (99, 0)
def lc_n : Nat := 287
theorem lc_ok : am_lyok lc lc_n := by
  intro o h
  unfold lc
  unfold lc_n at h
  rw [if_neg (by omega), if_neg (by omega)]
theorem lc_b {B : Nat} (h : B < 2) : lc (6 + B) = .inl 0 := by
  have e : B = 0 ∨ B = 1 := by omega
  rcases e with rfl | rfl <;> rfl
theorem lc_w {w : Nat} (h : w < 10) : lc (37 + w) = .inl 4 := by
  have e : w = 0 ∨ w = 1 ∨ w = 2 ∨ w = 3 ∨ w = 4 ∨ w = 5 ∨ w = 6 ∨ w = 7 ∨ w = 8 ∨ w = 9 := by omega
  rcases e with rfl | rfl | rfl | rfl | rfl | rfl | rfl | rfl | rfl | rfl <;> rfl
theorem lc_s {k : Nat} (h : k < 60) : lc (47 + 4 * k) = .inl 3 := by
  unfold lc
  rw [if_neg (by omega), if_pos (by omega), show (47 + 4 * k - 47) % 4 = 0 by omega]
  rfl
theorem lc_s4 {k : Nat} (h : k < 60) : lc (47 + 4 * k + 1) = .inr (0, 3) := by
  unfold lc
  rw [if_neg (by omega), if_pos (by omega), show (47 + 4 * k + 1 - 47) % 4 = 1 by omega]
  rfl
theorem lc_s5 {k : Nat} (h : k < 60) : lc (47 + 4 * k + 2) = .inr (0, 3) := by
  unfold lc
  rw [if_neg (by omega), if_pos (by omega), show (47 + 4 * k + 2 - 47) % 4 = 2 by omega]
  rfl
theorem lc_s6 {k : Nat} (h : k < 60) : lc (47 + 4 * k + 3) = .inr (0, 6) := by
  unfold lc
  rw [if_neg (by omega), if_pos (by omega), show (47 + 4 * k + 3 - 47) % 4 = 3 by omega]
  rfl
def cH (b : Nat) : Nat → Nat → Option Nat := fun o k =>
  if o = 0 then [some 1, some 2, some 3, some 4, some 5, some (6 + b), some 8].getD k none
  else if o = 4 then [some 9, none, some (7 - b), some 10, some 11, some 12].getD k none
  else if o = 5 then [some 13, some 14, some 15, some 16, some 17, some 18].getD k none
  else if o = 6 then [none, none, none, some 19, some 20, some 21, some 22, some 23, some 24, some 25, some 26, some 27].getD k none
  else if o = 7 then [none, none, none, some 28, some 29, some 30, some 31, some 32, some 33, some 34, some 35, some 36].getD k none
  else if o = 2 then (if k < 10 then some (37 + k) else none)
  else if o = 3 then (if k < 60 then some (47 + 4 * k) else none)
  else if 47 ≤ o ∧ o < 287 ∧ (o - 47) % 4 = 0 ∧ 4 ≤ k ∧ k < 7 then some (o + (k - 3)) else none
theorem crf {σ : am_HS} {b o k a : Nat} (h : σ.2.2 = cH b) (e : cH b o k = some a) : hR σ o k = some a := by rw [← e, ← h]; rfl
theorem crw {σ : am_HS} {b w : Nat} (h : σ.2.2 = cH b) (hw : w < 10) : hR σ 2 w = some (37 + w) := crf h (if_pos hw)
theorem crk {σ : am_HS} {b k : Nat} (h : σ.2.2 = cH b) (hk : k < 60) : hR σ 3 k = some (47 + 4 * k) := crf h (if_pos hk)
theorem crs4 {σ : am_HS} {b k : Nat} (h : σ.2.2 = cH b) (hk : k < 60) : hR σ (47 + 4 * k) 4 = some (47 + 4 * k + 1) := crf h (by
  unfold cH
  rw [if_neg (by omega), if_neg (by omega), if_neg (by omega), if_neg (by omega), if_neg (by omega), if_neg (by omega), if_neg (by omega), if_pos ⟨by omega, by omega, by omega, by omega, by omega⟩])
theorem crs5 {σ : am_HS} {b k : Nat} (h : σ.2.2 = cH b) (hk : k < 60) : hR σ (47 + 4 * k) 5 = some (47 + 4 * k + 2) := crf h (by
  unfold cH
  rw [if_neg (by omega), if_neg (by omega), if_neg (by omega), if_neg (by omega), if_neg (by omega), if_neg (by omega), if_neg (by omega), if_pos ⟨by omega, by omega, by omega, by omega, by omega⟩])
theorem crs6 {σ : am_HS} {b k : Nat} (h : σ.2.2 = cH b) (hk : k < 60) : hR σ (47 + 4 * k) 6 = some (47 + 4 * k + 3) := crf h (by
  unfold cH
  rw [if_neg (by omega), if_neg (by omega), if_neg (by omega), if_neg (by omega), if_neg (by omega), if_neg (by omega), if_neg (by omega), if_pos ⟨by omega, by omega, by omega, by omega, by omega⟩])
theorem crb3 {σ : am_HS} {b B : Nat} (h : σ.2.2 = cH b) (hB : B < 2) : hR σ (6 + B) 3 = some (19 + 9 * B) := crf h (by
  have e : B = 0 ∨ B = 1 := by omega
  rcases e with rfl | rfl <;> rfl)
theorem lcb3 {B : Nat} (hB : B < 2) : lc (19 + 9 * B) = .inr (0, 12) := by
  have e : B = 0 ∨ B = 1 := by omega
  rcases e with rfl | rfl <;> rfl
theorem crb4 {σ : am_HS} {b B : Nat} (h : σ.2.2 = cH b) (hB : B < 2) : hR σ (6 + B) 4 = some (20 + 9 * B) := crf h (by
  have e : B = 0 ∨ B = 1 := by omega
  rcases e with rfl | rfl <;> rfl)
theorem lcb4 {B : Nat} (hB : B < 2) : lc (20 + 9 * B) = .inr (0, 12) := by
  have e : B = 0 ∨ B = 1 := by omega
  rcases e with rfl | rfl <;> rfl
theorem crb5 {σ : am_HS} {b B : Nat} (h : σ.2.2 = cH b) (hB : B < 2) : hR σ (6 + B) 5 = some (21 + 9 * B) := crf h (by
  have e : B = 0 ∨ B = 1 := by omega
  rcases e with rfl | rfl <;> rfl)
theorem lcb5 {B : Nat} (hB : B < 2) : lc (21 + 9 * B) = .inr (0, 12) := by
  have e : B = 0 ∨ B = 1 := by omega
  rcases e with rfl | rfl <;> rfl
theorem crb6 {σ : am_HS} {b B : Nat} (h : σ.2.2 = cH b) (hB : B < 2) : hR σ (6 + B) 6 = some (22 + 9 * B) := crf h (by
  have e : B = 0 ∨ B = 1 := by omega
  rcases e with rfl | rfl <;> rfl)
theorem lcb6 {B : Nat} (hB : B < 2) : lc (22 + 9 * B) = .inr (0, 12) := by
  have e : B = 0 ∨ B = 1 := by omega
  rcases e with rfl | rfl <;> rfl
theorem crb7 {σ : am_HS} {b B : Nat} (h : σ.2.2 = cH b) (hB : B < 2) : hR σ (6 + B) 7 = some (23 + 9 * B) := crf h (by
  have e : B = 0 ∨ B = 1 := by omega
  rcases e with rfl | rfl <;> rfl)
theorem lcb7 {B : Nat} (hB : B < 2) : lc (23 + 9 * B) = .inr (0, 12) := by
  have e : B = 0 ∨ B = 1 := by omega
  rcases e with rfl | rfl <;> rfl
theorem crb8 {σ : am_HS} {b B : Nat} (h : σ.2.2 = cH b) (hB : B < 2) : hR σ (6 + B) 8 = some (24 + 9 * B) := crf h (by
  have e : B = 0 ∨ B = 1 := by omega
  rcases e with rfl | rfl <;> rfl)
theorem lcb8 {B : Nat} (hB : B < 2) : lc (24 + 9 * B) = .inr (0, 12) := by
  have e : B = 0 ∨ B = 1 := by omega
  rcases e with rfl | rfl <;> rfl
theorem crb9 {σ : am_HS} {b B : Nat} (h : σ.2.2 = cH b) (hB : B < 2) : hR σ (6 + B) 9 = some (25 + 9 * B) := crf h (by
  have e : B = 0 ∨ B = 1 := by omega
  rcases e with rfl | rfl <;> rfl)
theorem lcb9 {B : Nat} (hB : B < 2) : lc (25 + 9 * B) = .inr (0, 1200) := by
  have e : B = 0 ∨ B = 1 := by omega
  rcases e with rfl | rfl <;> rfl
theorem crb10 {σ : am_HS} {b B : Nat} (h : σ.2.2 = cH b) (hB : B < 2) : hR σ (6 + B) 10 = some (26 + 9 * B) := crf h (by
  have e : B = 0 ∨ B = 1 := by omega
  rcases e with rfl | rfl <;> rfl)
theorem lcb10 {B : Nat} (hB : B < 2) : lc (26 + 9 * B) = .inr (0, 1200) := by
  have e : B = 0 ∨ B = 1 := by omega
  rcases e with rfl | rfl <;> rfl
theorem crb11 {σ : am_HS} {b B : Nat} (h : σ.2.2 = cH b) (hB : B < 2) : hR σ (6 + B) 11 = some (27 + 9 * B) := crf h (by
  have e : B = 0 ∨ B = 1 := by omega
  rcases e with rfl | rfl <;> rfl)
theorem lcb11 {B : Nat} (hB : B < 2) : lc (27 + 9 * B) = .inr (0, 1200) := by
  have e : B = 0 ∨ B = 1 := by omega
  rcases e with rfl | rfl <;> rfl
