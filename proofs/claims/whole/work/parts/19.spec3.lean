/-! THE SPECIFICATION, second part: values -/
def addV (acc : Vl) (a b : Int) : Vl := match acc with
  | some (some q) => nrm (q.1 * b + a * q.2) (q.2 * b)
  | v => v
def mulV (acc : Vl) (a b : Int) : Vl := match acc with
  | some (some q) => nrm (q.1 * a) (q.2 * b)
  | v => v
def divV (acc : Vl) (a : Int) : Vl := match acc with
  | some (some q) => nrm q.1 (q.2 * a)
  | v => v
/-- a part of a sum, product or list: its value, whether it is turned, and what stands there -/
abbrev CE : Type := Vl × Int × Int
def sumS1 (neg : Bool) (acc : Vl) (c : CE) : Vl := match c.1 with
  | some (some q) => addV acc (if c.2.1 ≠ 0 ∧ neg = true then -q.1 else q.1) q.2
  | _ => acc
def sumF (neg : Bool) (acc : Vl) (l : List CE) : Vl := l.foldl (sumS1 neg) acc
def prodS1 (acc : Vl) (c : CE) : Vl := match c.1 with
  | some (some q) => if c.2.1 ≠ 0 ∧ c.2.2 = 0 then divV acc q.1 else mulV acc q.1 q.2
  | _ => acc
def prodF (acc : Vl) (l : List CE) : Vl := l.foldl prodS1 acc
theorem sumF_lost (neg : Bool) (l : List CE) : sumF neg vX l = vX := by
  induction l with
  | nil => rfl
  | cons c t ih =>
    have : sumS1 neg vX c = vX := by unfold sumS1; split <;> rfl
    show sumF neg (sumS1 neg vX c) t = vX
    rw [this, ih]
theorem prodF_lost (l : List CE) : prodF vX l = vX := by
  induction l with
  | nil => rfl
  | cons c t ih =>
    have : prodS1 vX c = vX := by
      unfold prodS1
      split
      · split <;> rfl
      · rfl
    show prodF (prodS1 vX c) t = vX
    rw [this, ih]
theorem mul_b2 {x y M N : Int} (hx : -M ≤ x ∧ x ≤ M) (hy : 0 ≤ y ∧ y ≤ N) : -(M * N) ≤ x * y ∧ x * y ≤ M * N := by
  have h1 : x * y ≤ M * y := Int.mul_le_mul_of_nonneg_right hx.2 hy.1
  have h2 : -M * y ≤ x * y := Int.mul_le_mul_of_nonneg_right hx.1 hy.1
  have h3 : M * y ≤ M * N := Int.mul_le_mul_of_nonneg_left hy.2 (by omega)
  rw [Int.neg_mul] at h2
  omega
theorem mul_p {x y N : Int} (hx : 1 ≤ x ∧ x ≤ N) (hy : 1 ≤ y ∧ y ≤ N) : 1 ≤ x * y ∧ x * y ≤ N * N := by
  have h1 : 1 * 1 ≤ x * y := Int.mul_le_mul hx.1 hy.1 (by omega) (by omega)
  have h2 : x * y ≤ N * N := Int.mul_le_mul hx.2 hy.2 (by omega) (by omega)
  omega
theorem vt_z {v : Vl} {z U W : Int} (h : vt v z U W) : 0 ≤ z ∧ z ≤ 2 := by
  unfold vt at h
  split at h
  · omega
  · omega
  · omega
theorem vt_1 {v : Vl} {z U W : Int} (h : vt v z U W) (hz : z = 1) : v = vN U W := by
  unfold vt at h
  split at h
  · omega
  · omega
  · rename_i q
    obtain ⟨-, h1, h2⟩ := h
    rw [h1, h2]
theorem vt_n1 {v : Vl} {z U W : Int} (h : vt v z U W) (hz : ¬ z = 1) : v = vO ∨ v = vX := by
  unfold vt at h
  split at h
  · exact Or.inl rfl
  · exact Or.inr rfl
  · omega
theorem vokN {U W : Int} (h : vok (vN U W)) : (-1000000000 ≤ U ∧ U ≤ 1000000000) ∧ 1 ≤ W ∧ W ≤ 1000000000 := ⟨⟨h.1, h.2.1⟩, h.2.2.1, h.2.2.2.1⟩
theorem nrm_nO (a b : Int) : nrm a b ≠ vO := by unfold nrm; split <;> simp
theorem addV_ok {acc : Vl} {a b : Int} (h : vok acc) (hb : 1 ≤ b) : vok (addV acc a b) := by
  unfold addV
  split
  · rename_i q
    exact nrm_ok (by have := (vokN (U := q.1) (W := q.2) h).2.1; have h3 := Int.mul_le_mul this hb (by omega) (by omega); omega)
  · exact h
theorem mulV_ok {acc : Vl} {a b : Int} (h : vok acc) (hb : 1 ≤ b) : vok (mulV acc a b) := by
  unfold mulV
  split
  · rename_i q
    exact nrm_ok (by have := (vokN (U := q.1) (W := q.2) h).2.1; have h3 := Int.mul_le_mul this hb (by omega) (by omega); omega)
  · exact h
/-- a chain of the reference's nodes, with the values that were kept at them -/
def Lk (σ : am_HS) : Int → List (Nat × Vl) → Prop
  | y, [] => y < 0
  | y, q :: t => y = (q.1 : Int) ∧ q.1 < 3200 ∧ vt q.2 (hI σ 36 q.1) (hL σ 37 q.1) (hL σ 38 q.1) ∧ vok q.2 ∧ Lk σ (hI σ 20 q.1) t
abbrev ceM (σ : am_HS) (q : Nat × Vl) : CE := (q.2, hI σ 22 q.1, hI σ 17 q.1)
