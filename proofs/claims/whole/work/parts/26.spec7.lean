/-! THE REFERENCE: what reckoning stands on -/
def envf (mk rvl : Nat → Vl) : Nat → Vl := fun a => if a < 10 then mk a else rvl (a - 10)
def rgk (n : Nat) (lo hi ρ : Nat → Nat) (k y : Nat) : Prop := ∃ r, r < n ∧ ρ r < k ∧ lo r ≤ y ∧ y < hi r
/-- a book of rules in the reference's cells -/
def RC (N n : Nat) (lo hi ρ : Nat → Nat) (ev : Nat → Den) (td : TD) (σ : am_HS) : Prop := n ≤ 12 ∧ N < 2 ∧ hI σ 0 42 = (N : Int) ∧ tdM σ = td ∧ (∀ r, r < n → hI σ 25 (12 * N + r) = (lo r : Int) ∧ Nd td (fun r' => r' < n ∧ ρ r' < ρ r) 28 (lo r) (hi r) (ev r)) ∧ (∀ r r', r < n → r' < n → r ≠ r' → hi r ≤ lo r' ∨ hi r' ≤ lo r)
/-- the values of a book's rules for these marks -/
def RV (n : Nat) (ev : Nat → Den) (mk rvl : Nat → Vl) : Prop := (∀ r, r < n → rvl r = ev r (envf mk rvl)) ∧ (∀ w, vok (mk w)) ∧ ∀ r, vok (rvl r)
def Mem (n : Nat) (rvl : Nat → Vl) (σ : am_HS) : Prop := ∀ r, r < n → 0 ≤ hI σ 33 r → vt (rvl r) (hI σ 33 r) (hL σ 34 r) (hL σ 35 r)
def RS0 (p : Nat) (mk : Nat → Vl) (σ : am_HS) : Prop := σ.2.2 = mH ∧ rgM σ ∧ p < 6 ∧ hI σ 0 51 = (p : Int) ∧ ∀ w, w < 10 → (-1 ≤ hI σ 32 w ∧ hI σ 32 w ≤ 20) ∧ mtM σ p w (hI σ 32 w) = mk w
theorem RC.of {N n : Nat} {lo hi ρ : Nat → Nat} {ev : Nat → Den} {td : TD} {σ s : am_HS} {Zn Zr : Nat → Prop} (h : RC N n lo hi ρ ev td σ) (f : EvF σ s Zn Zr) : RC N n lo hi ρ ev td s := by
  obtain ⟨h1, h2, h3, h4, h5, h6⟩ := h
  exact ⟨h1, h2, (f.I (by omega) (by omega) (by omega) (by omega)).trans h3, f.td.trans h4, fun r hr => ⟨(f.I (by omega) (by omega) (by omega) (by omega)).trans (h5 r hr).1, (h5 r hr).2⟩, h6⟩
theorem RS0.of {p : Nat} {mk : Nat → Vl} {σ s : am_HS} {Zn Zr : Nat → Prop} (h : RS0 p mk σ) (f : EvF σ s Zn Zr) : RS0 p mk s := by
  obtain ⟨h1, h2, h3, h4, h5⟩ := h
  refine ⟨f.1.trans h1, f.rg h2, h3, (f.I (by omega) (by omega) (by omega) (by omega)).trans h4, fun w hw => ?_⟩
  have e := f.I (o := 32) (j := w) (by omega) (by omega) (by omega) (by omega)
  rw [e, mtM_congr (fun o j h1 h2 => f.I (by omega) (by omega) (by omega) (by omega))]
  exact h5 w hw
theorem Mem.out {n : Nat} {rvl : Nat → Vl} {σ s : am_HS} {Zn : Nat → Prop} (h : Mem n rvl σ) (f : EvF σ s Zn (fun _ => False)) : Mem n rvl s := by
  intro r hr h0
  obtain ⟨e1, e2, e3⟩ := f.memo (y := r) (fun h => h)
  rw [e1, e2, e3]
  rw [e1] at h0
  exact h r hr h0
theorem rgk_not {n : Nat} {lo hi ρ : Nat → Nat} {r0 y : Nat} (h0 : r0 < n) (hd : ∀ r r', r < n → r' < n → r ≠ r' → hi r ≤ lo r' ∨ hi r' ≤ lo r) (hy : lo r0 ≤ y ∧ y < hi r0) : ¬ rgk n lo hi ρ (ρ r0) y := by
  rintro ⟨r, h1, h2, h3, h4⟩
  by_cases e : r = r0
  · subst e; omega
  · rcases hd r r0 h1 h0 e with h | h <;> omega
theorem Lk_congr {σ s : am_HS} : ∀ {l : List (Nat × Vl)} {y : Int}, (∀ q ∈ l, hI s 36 q.1 = hI σ 36 q.1 ∧ hL s 37 q.1 = hL σ 37 q.1 ∧ hL s 38 q.1 = hL σ 38 q.1 ∧ hI s 20 q.1 = hI σ 20 q.1) → Lk σ y l → Lk s y l
  | [], _, _, h => h
  | q :: t, y, he, h => by
    obtain ⟨h1, h2, h3, h4, h5⟩ := h
    obtain ⟨e1, e2, e3, e4⟩ := he q (by simp)
    exact ⟨h1, h2, by rw [e1, e2, e3]; exact h3, h4, by rw [e4]; exact Lk_congr (fun a ha => he a (by simp [ha])) h5⟩
theorem Lk_of {td : TD} {ok : Nat → Prop} {f : Nat} {s : am_HS} {env : Nat → Vl} (hv : ∀ a, vok (env a)) (hb : ∀ j, hI s 20 j = td.2.2.2.1 j) : ∀ {cs : List (Nat × Den)} {y : Int} {lo hi : Nat}, NdC (Nd td ok f) td.2.2.2.1 y lo hi cs → (∀ q ∈ cs, vt (q.2 env) (hI s 36 q.1) (hL s 37 q.1) (hL s 38 q.1)) → Lk s y (cs.map (fun q => (q.1, q.2 env)))
  | [], _, _, _, h, _ => h.1
  | q :: t, y, lo, hi, h, hc => by
    obtain ⟨h1, h2, mid, h3, h4, h5⟩ := h
    have h6 : mid ≤ 3200 := by
      cases f with
      | zero => exact h4.elim
      | succ f => exact h4.1
    refine ⟨by rw [h1, h2], by show q.1 < 3200; omega, hc q (by simp), Nd_ok h4 env hv, ?_⟩
    show Lk s (hI s 20 q.1) _
    rw [hb, h2]
    exact Lk_of hv hb h5 (fun a ha => hc a (by simp [ha]))
theorem map_ce {td : TD} {s : am_HS} {env : Nat → Vl} (ht : tdM s = td) (cs : List (Nat × Den)) : (cs.map (fun q => (q.1, q.2 env))).map (ceM s) = cs.map (fun q => (q.2 env, td.2.2.2.2 q.1, td.1 q.1)) := by
  subst ht
  rw [List.map_map]
  rfl
theorem vt_uT {v : Vl} {s : am_HS} {z U W : Int} (h : vt v z U W) (hv : vok v) : vt v (hI (uT s z U W) 0 48) (hL (uT s z U W) 0 49) (hL (uT s z U W) 0 50) := by
  have hz := vt_z h
  rw [hI_uT_s ⟨by omega, by omega⟩]
  rcases v with _ | _ | q
  · exact h
  · exact h
  · obtain ⟨h1, h2, h3⟩ := h
    obtain ⟨a, b⟩ := vokN (U := q.1) (W := q.2) hv
    rw [hL_uT_u ⟨by omega, by omega⟩, hL_uT_w ⟨by omega, by omega⟩]
    exact ⟨h1, h2, h3⟩
theorem EvF_uI (σ : am_HS) (z : Int) (Zn Zr : Nat → Prop) : EvF σ (uI σ 0 48 z) Zn Zr := by rw [uT_out]; exact EvF_uT _ _ _ _ _ _
