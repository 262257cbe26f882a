/-! VALUES: OUT, LOST, a fraction in least terms -/
abbrev Vl : Type := Option (Option (Int × Int))
abbrev vO : Vl := none
abbrev vX : Vl := some none
abbrev vN (u d : Int) : Vl := some (some (u, d))
def nrm (a b : Int) : Vl := if 1000000000 < a / (Int.gcd a b : Int) ∨ a / (Int.gcd a b : Int) < -1000000000 ∨ 1000000000 < b / (Int.gcd a b : Int) then vX else vN (a / (Int.gcd a b : Int)) (b / (Int.gcd a b : Int))
/-- the three fields that tell a value -/
def vt (v : Vl) (z U W : Int) : Prop := match v with
  | none => z = 0
  | some none => z = 2
  | some (some q) => z = 1 ∧ U = q.1 ∧ W = q.2
/-- a value as it comes: within bounds, in least terms -/
def vok (v : Vl) : Prop := match v with
  | none => True
  | some none => True
  | some (some q) => -1000000000 ≤ q.1 ∧ q.1 ≤ 1000000000 ∧ 1 ≤ q.2 ∧ q.2 ≤ 1000000000 ∧ Int.gcd q.1 q.2 = 1
theorem gcd_pos {a b : Int} (hb : 1 ≤ b) : 0 < (Int.gcd a b : Int) := by
  have : 0 < Int.gcd a b := Int.gcd_pos_of_ne_zero_right a (by omega)
  omega
theorem nrm_ok {a b : Int} (hb : 1 ≤ b) : vok (nrm a b) := by
  unfold nrm
  split
  · trivial
  · rename_i h
    have hg := gcd_pos (a := a) hb
    have h2 : (Int.gcd a b : Int) ∣ b := Int.gcd_dvd_right ..
    have h3 : 1 ≤ b / (Int.gcd a b : Int) := by
      have := Int.ediv_pos_of_pos_of_dvd (by omega : 0 < b) (by omega) h2
      omega
    refine ⟨by omega, by omega, h3, by omega, ?_⟩
    exact Int.gcd_ediv_gcd_ediv_gcd (by omega)
theorem nrm_same {u d : Int} (h : vok (vN u d)) : nrm u d = vN u d := by
  obtain ⟨h1, h2, h3, h4, h5⟩ := h
  have e : (Int.gcd u d : Int) = 1 := by
    have : Int.gcd u d = 1 := h5
    omega
  unfold nrm
  rw [e, Int.ediv_one, Int.ediv_one, if_neg]
  have : ¬ (1000000000 < u ∨ u < -1000000000 ∨ 1000000000 < d) := by
    have h1 : -1000000000 ≤ u := h1
    have h2 : u ≤ 1000000000 := h2
    have h4 : d ≤ 1000000000 := h4
    omega
  exact this
/-- what an outcome of 'tells' leaves -/
def uT (σ : am_HS) (z U W : Int) : am_HS := uI (uL (uL σ 0 49 U) 0 50 W) 0 48 z
