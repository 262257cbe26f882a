/-! THE SPECIFICATION, first part: marks -/
def dayS (wh du le : Int) : Int := if wh - du - le ≤ 0 then 0 else (wh - du - le + 23) / 24
def shrS (ls dy : Int) : Int := if 100 - ls * dy < 0 then 0 else 100 - ls * dy
def cntS (f : Nat → Int) : Nat → Int
  | 0 => 0
  | n + 1 => cntS f n + (if 0 ≤ f n then 1 else 0)
def sumS (f : Nat → Int) : Nat → Int
  | 0 => 0
  | n + 1 => sumS f n + (if 0 < f n then f n else 0)
def bestS (f sh : Nat → Int) : Nat → Int
  | 0 => 0
  | t + 1 => if 0 ≤ f t then (if f t * sh t < bestS f sh t then bestS f sh t else f t * sh t) else bestS f sh t
def mkvS (kd ls du le : Int) (wh mk pe : Nat → Int) : Vl := if kd = 3 then nrm (sumS pe 6 * shrS ls (dayS (wh 0) du le)) (100 * cntS pe 6) else nrm (bestS mk (fun t => shrS ls (dayS (wh t) du le)) 3) 100
abbrev mkdS (kd : Int) (mk pe : Nat → Int) : Prop := if kd = 3 then 0 < cntS pe 6 else 0 ≤ mk 0
theorem dayS_r {wh du le : Int} (h1 : 0 ≤ wh ∧ wh ≤ 100000) (h2 : 0 ≤ du) (h3 : 0 ≤ le) : 0 ≤ dayS wh du le ∧ dayS wh du le ≤ 5000 := by
  unfold dayS
  split <;> omega
theorem mul_bd {x y a b : Int} (hx : 0 ≤ x ∧ x ≤ a) (hy : 0 ≤ y ∧ y ≤ b) : 0 ≤ x * y ∧ x * y ≤ a * b := ⟨Int.mul_nonneg hx.1 hy.1, Int.mul_le_mul hx.2 hy.2 hy.1 (by omega)⟩
theorem shrS_r {ls dy : Int} (h1 : 0 ≤ ls ∧ ls ≤ 100) (h2 : 0 ≤ dy ∧ dy ≤ 5000) : 0 ≤ shrS ls dy ∧ shrS ls dy ≤ 100 := by
  have := mul_bd h1 h2
  unfold shrS
  split <;> omega
theorem cntS_r (f : Nat → Int) : ∀ n : Nat, 0 ≤ cntS f n ∧ cntS f n ≤ n
  | 0 => ⟨Int.le_refl _, Int.le_refl _⟩
  | n + 1 => by
    have := cntS_r f n
    unfold cntS
    split <;> omega
theorem sumS_r {f : Nat → Int} (h : ∀ k, f k ≤ 20) : ∀ n : Nat, 0 ≤ sumS f n ∧ sumS f n ≤ 20 * n
  | 0 => ⟨Int.le_refl _, Int.le_refl _⟩
  | n + 1 => by
    have := sumS_r h n
    have := h n
    unfold sumS
    split <;> omega
theorem bestS_r {f sh : Nat → Int} (h : ∀ k, f k ≤ 20) (h2 : ∀ k, 0 ≤ sh k ∧ sh k ≤ 100) : ∀ n : Nat, 0 ≤ bestS f sh n ∧ bestS f sh n ≤ 2000
  | 0 => ⟨Int.le_refl _, by unfold bestS; omega⟩
  | n + 1 => by
    have := bestS_r h h2 n
    have h3 := h n
    unfold bestS
    split
    · rename_i h4
      have := mul_bd ⟨h4, h3⟩ (h2 n)
      split <;> omega
    · omega
/-- bounds of the reference's cells -/
def bl (o : Nat) : Int := match o with
  | 1 => 0 | 2 => 0 | 3 => 0 | 4 => 0 | 5 => 0 | 6 => 0 | 7 => -1 | 8 => 0 | 9 => 0 | 10 => 0 | 11 => 0 | 12 => 0 | 13 => -1 | 14 => -1 | 15 => 0 | 16 => 0
  | 22 => 0 | 27 => 0
  | _ => -2147483648
def bh (o : Nat) : Int := match o with
  | 1 => 100000 | 2 => 5 | 3 => 3 | 4 => 20 | 5 => 100000 | 6 => 100 | 7 => 11 | 8 => 9999 | 9 => 1000 | 10 => 100000 | 11 => 100000 | 12 => 5 | 13 => 20 | 14 => 20 | 15 => 1 | 16 => 255
  | 22 => 1 | 27 => 1
  | _ => 2147483647
def rgM (σ : am_HS) : Prop := ∀ o k, bl o ≤ hI σ o k ∧ hI σ o k ≤ bh o
/-- the reference's mark, where it is marked -/
abbrev mvM (σ : am_HS) (p w : Nat) : Vl := mkvS (hI σ 3 w) (hI σ 6 w) (hI σ 5 w) (hI σ 9 (10 * p + w)) (fun t => hI σ 11 (3 * (10 * p + w) + t)) (fun t => hI σ 13 (3 * (10 * p + w) + t)) (fun q => hI σ 14 (6 * (10 * p + w) + q))
abbrev mkM (σ : am_HS) (p w : Nat) : Prop := mkdS (hI σ 3 w) (fun t => hI σ 13 (3 * (10 * p + w) + t)) (fun q => hI σ 14 (6 * (10 * p + w) + q))
/-- a work's mark as it is tried: excused, marked, or the mark taken -/
def mtM (σ : am_HS) (p w : Nat) (tk : Int) : Vl := if hI σ 15 (10 * p + w) = 1 then vO else if mkdS (hI σ 3 w) (fun t => hI σ 13 (3 * (10 * p + w) + t)) (fun q => hI σ 14 (6 * (10 * p + w) + q)) then mvM σ p w else vN (if 0 < tk then tk else 0) 1
