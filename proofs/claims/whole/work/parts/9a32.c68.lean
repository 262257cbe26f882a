section
/-! BOTH: mark -/
theorem SWk.mk {τ : am_HS} (h : ∀ k, k < 60 → SWk τ k) {k0 t : Nat} {v : Int} (hk0 : k0 < 60) (ht : t < 3) (hv : 0 ≤ v ∧ v ≤ 20) (h3 : hI τ 3 (k0 % 10) ≠ 3) (h2 : hI τ 3 (k0 % 10) ≠ 2 → t = 0) (h2' : hI τ 3 (k0 % 10) = 2 → (t : Int) + 1 = hI τ 10 k0) (hm : ¬ hI τ 0 2 ≤ ((k0 % 10 : Nat) : Int)) : ∀ k, k < 60 → SWk (uI τ 13 (3 * k0 + t) v) k := fun k hk => by
  have hr : rI v := ⟨by omega, by omega⟩
  have old := h k hk
  by_cases e : k = k0
  · subst e
    obtain ⟨o1, o2, o3, o4, o5⟩ := old
    have e3 : hI (uI τ 13 (3 * k + t) v) 3 (k % 10) = hI τ 3 (k % 10) := hI_uI_n (by omega)
    have e10 : hI (uI τ 13 (3 * k + t) v) 10 k = hI τ 10 k := hI_uI_n (by omega)
    have e2 : hI (uI τ 13 (3 * k + t) v) 0 2 = hI τ 0 2 := hI_uI_n (by omega)
    unfold SWk
    rw [e3, e10, e2]
    refine ⟨fun y => absurd y h3, fun y q hq => by rw [hI_uI_n (by omega)]; exact o2 y q hq, fun y => ?_, fun y => ⟨(o4 y).1, fun t' ht' => ?_⟩, fun y => absurd y hm⟩
    · have := h2 y
      rw [hI_uI_n (by omega), hI_uI_n (by omega)]
      exact o3 y
    · have z := h2' y
      rcases hI_uI_c (σ := τ) (o := 13) (k := 3 * k + t) (a := 13) (b := 3 * k + t') hr with ⟨e1, e2, e3⟩ | ⟨e1, e3⟩ <;> rw [e3]
      · exact ⟨fun _ => by omega, fun _ => hv.1⟩
      · exact (o4 y).2 t' ht'
  · exact old.of2 (hI_uI_n (by omega)) (fun t' ht' => by rw [hI_uI_n (by omega)]) (fun q hq => hI_uI_n (by omega)) (hI_uI_n (by omega)) (Int.le_of_eq (hI_uI_n (by omega)).symm)
/-- a mark in both, and counted -/
theorem SR.mk1 {c : Nat} {τ σ : am_HS} (h : SR c τ σ) {k0 t : Nat} {v m : Int} (hk0 : k0 < 60) (ht : t < 3) (hv : 0 ≤ v ∧ v ≤ 20) (h3 : hI τ 3 (k0 % 10) ≠ 3) (h2 : hI τ 3 (k0 % 10) ≠ 2 → t = 0) (h2' : hI τ 3 (k0 % 10) = 2 → (t : Int) + 1 = hI τ 10 k0) (hm : ¬ hI τ 0 2 ≤ ((k0 % 10 : Nat) : Int)) (e : m = hI τ 0 5 + 1) (hb : m ≤ 6 * (c : Int)) (hc : c ≤ 20000) : SR c (uI (uI τ 13 (3 * k0 + t) v) 0 5 m) (uI (uI σ (47 + 4 * k0 + 2) t v) 0 11 m) := by
  have hr : rI v := ⟨by omega, by omega⟩
  have g5 := h.2.1.2.2.1.2.2.2.1
  have hr5 : rI m := ⟨by omega, by omega⟩
  have s1 : SR c (uI τ 13 (3 * k0 + t) v) (uI σ (47 + 4 * k0 + 2) t v) := h.w (SCp.c8 hk0 ht) rfl hr ⟨show (-1 : Int) ≤ v by omega, show v ≤ (20 : Int) by omega⟩ (h.2.1.2.2.1.ui hr (by omega) (by omega)) (SWk.mk h.2.1.2.2.2 hk0 ht hv h3 h2 h2' hm) (by omega) (by omega) (by omega) (by omega)
  exact s1.w (SCp.c1 (by omega)) rfl hr5 ⟨hr5.1, hr5.2⟩ (s1.2.1.2.2.1.ui hr5 (by omega) (by omega)) (fun k hk => (s1.2.1.2.2.2 k hk).ul (by omega)) (by omega) (by omega) (by omega) (by omega)
theorem cntB_one {c : Nat → Bool} {p : Nat} (hc : ∀ q, c q = decide (q = p)) : ∀ k, cntB c k = if p < k then 1 else 0
  | 0 => by rw [if_neg (by omega)]; rfl
  | k + 1 => by
    rw [cntB_s, cntB_one hc k, hc k]
    by_cases e : k = p
    · rw [if_neg (c := p < k) (by omega), if_pos (c := p < k + 1) (by omega), if_pos (decide_eq_true e)]
    · rw [if_neg (c := decide (k = p) = true) (fun z => e (of_decide_eq_true z))]
      by_cases z : p < k
      · rw [if_pos z, if_pos (by omega)]
      · rw [if_neg z, if_neg (by omega)]
theorem mgM_one {τ : am_HS} {w t p : Nat} {v : Int} {c : Nat → Bool} (hc : ∀ q, c q = decide (q = p)) : ∀ k, mgM τ w t v c k = if p < k then uI (uI τ 13 (3 * (10 * p + w) + t) v) 0 5 (hI τ 0 5 + 1) else τ
  | 0 => by rw [if_neg (by omega)]; rfl
  | k + 1 => by
    show (if c k = true then uI (uI (mgM τ w t v c k) 13 (3 * (10 * k + w) + t) v) 0 5 (hI (mgM τ w t v c k) 0 5 + 1) else mgM τ w t v c k) = _
    rw [mgM_one hc k, hc k]
    by_cases e : k = p
    · rw [if_neg (c := p < k) (by omega), if_pos (c := p < k + 1) (by omega), if_pos (decide_eq_true e), e]
    · rw [if_neg (c := decide (k = p) = true) (fun z => e (of_decide_eq_true z))]
      by_cases z : p < k
      · rw [if_pos z, if_pos (by omega)]
      · rw [if_neg z, if_neg (by omega)]
/-- the marks of a group -/
theorem SR.mkg {c : Nat} {τ σ : am_HS} (h : SR c τ σ) {w : Nat} {v : Int} (hw : w < 10) (hv : 0 ≤ v ∧ v ≤ 20) (h1 : hI τ 3 w = 1) (hm : (w : Int) < hI τ 0 2) {cM cC : Nat → Bool} {P : Nat} (hP : P ≤ 6) (hcc : ∀ q, q < P → cM q = cC q) (hb : hI τ 0 5 + 6 ≤ 6 * (c : Int)) (hc : c ≤ 20000) : ∀ k, k ≤ P → cntB cM k = cntB cC k ∧ hI (mgM τ w 0 v cM k) 0 5 = hI τ 0 5 + (cntB cM k : Int) ∧ (∀ o j, o ≠ 13 → ¬ (o = 0 ∧ j = 5) → hI (mgM τ w 0 v cM k) o j = hI τ o j) ∧ SR c (mgM τ w 0 v cM k) (uI (mgC σ w v cC k) 0 11 (hI σ 0 11 + (cntB cC k : Int)))
  | 0, _ => by
    have e : uI σ 0 11 (hI σ 0 11 + ((0 : Nat) : Int)) = σ := by
      rw [show hI σ 0 11 + ((0 : Nat) : Int) = hI σ 0 11 by omega]
      exact uI_self σ 0 11
    refine ⟨rfl, (Int.add_zero _).symm, fun _ _ _ _ => rfl, ?_⟩
    show SR c τ (uI σ 0 11 (hI σ 0 11 + ((0 : Nat) : Int)))
    rw [e]
    exact h
  | k + 1, hk => by
    obtain ⟨i1, i2, i3, i4⟩ := h.mkg hw hv h1 hm hP hcc hb hc k (by omega)
    have g5 := h.2.1.2.2.1.2.2.2.1
    have e11 : hI σ 0 11 = hI τ 0 5 := (h.1 0 5 0 11 (SCp.c1 (by omega))).symm
    have cl := cntB_le cM k
    rw [cntB_s, cntB_s, ← hcc k (by omega), ← i1]
    show _ ∧ hI (if cM k = true then uI (uI (mgM τ w 0 v cM k) 13 (3 * (10 * k + w) + 0) v) 0 5 (hI (mgM τ w 0 v cM k) 0 5 + 1) else mgM τ w 0 v cM k) 0 5 = _ ∧ (∀ o j, o ≠ 13 → ¬ (o = 0 ∧ j = 5) → hI (if cM k = true then uI (uI (mgM τ w 0 v cM k) 13 (3 * (10 * k + w) + 0) v) 0 5 (hI (mgM τ w 0 v cM k) 0 5 + 1) else mgM τ w 0 v cM k) o j = hI τ o j) ∧ SR c (if cM k = true then uI (uI (mgM τ w 0 v cM k) 13 (3 * (10 * k + w) + 0) v) 0 5 (hI (mgM τ w 0 v cM k) 0 5 + 1) else mgM τ w 0 v cM k) (uI (if cC k = true then uI (mgC σ w v cC k) (47 + 4 * (10 * k + w) + 2) 0 v else mgC σ w v cC k) 0 11 _)
    rw [← hcc k (by omega)]
    by_cases z : cM k = true
    · rw [if_pos z, if_pos z, if_pos z]
      have hr5 : rI (hI (mgM τ w 0 v cM k) 0 5 + 1) := ⟨by omega, by omega⟩
      refine ⟨rfl, ?_, fun o j ho hj => ?_, ?_⟩
      · rw [hI_uI_e hr5, i2]
        omega
      · rw [hI_uI_n (by omega), hI_uI_n (by omega)]
        exact i3 o j ho hj
      · have e3 : hI (mgM τ w 0 v cM k) 3 ((10 * k + w) % 10) = 1 := by
          rw [i3 3 _ (by omega) (by omega), show (10 * k + w) % 10 = w by omega]
          exact h1
        have e2 : hI (mgM τ w 0 v cM k) 0 2 = hI τ 0 2 := i3 0 2 (by omega) (by omega)
        have step := i4.mk1 (k0 := 10 * k + w) (t := 0) (v := v) (m := hI (mgM τ w 0 v cM k) 0 5 + 1) (by omega) (by omega) hv (by omega) (fun _ => rfl) (by omega) (by omega) rfl (by omega) hc
        rw [uI_comm (σ := mgC σ w v cC k) (o := 0) (k := 11) (a := 47 + 4 * (10 * k + w) + 2) (b := 0) (by omega), uI_uI] at step
        rw [i2] at step
        rw [i2, show hI σ 0 11 + ((cntB cM k + 1 : Nat) : Int) = hI τ 0 5 + (cntB cM k : Int) + 1 by omega]
        exact step
    · rw [if_neg z, if_neg z, if_neg z]
      refine ⟨rfl, i2, i3, ?_⟩
      rw [← i1] at i4
      exact i4
end
