section
/-! BOTH: hand -/
theorem adC_e {σ : am_HS} {k t : Nat} {kd tick who m : Int} (hm : hI σ (47 + 4 * k) 2 = m) (h : ltS (m + 1) kd = (t : Int)) (ht : t < 3) : adC σ k kd tick who = uI (uI (uI σ (47 + 4 * k) 2 (m + 1)) (47 + 4 * k) 3 who) (47 + 4 * k + 1) t tick := by
  unfold adC
  rw [hm, h, if_pos ⟨by omega, by omega⟩]
  rfl
/-- a hand-in in both, and counted -/
theorem SR.ha1 {c : Nat} {τ σ : am_HS} (h : SR c τ σ) {k0 t : Nat} {m tick b H : Int} (hk0 : k0 < 60) (ht : t < 3) (hm : hI τ 10 k0 = m) (hmc : m + 1 ≤ (c : Int)) (hti : 0 ≤ tick ∧ tick ≤ 100000) (hb : 0 ≤ b ∧ b ≤ 5) (h2 : hI τ 3 (k0 % 10) = 2 → m < 3 ∧ (0 < m → 0 ≤ hI τ 13 (3 * k0 + (m - 1).toNat))) (h1 : hI τ 3 (k0 % 10) = 1 → t = 0) (hmd : ¬ hI τ 0 2 ≤ ((k0 % 10 : Nat) : Int)) (e : H = hI τ 0 4 + 1) (hH : H ≤ 6 * (c : Int)) (hc : c ≤ 20000) : SR c (uI (uI (uI (uI τ 11 (3 * k0 + t) tick) 12 (3 * k0 + t) b) 10 k0 (m + 1)) 0 4 H) (uI (uI (uI (uI σ (47 + 4 * k0) 2 (m + 1)) (47 + 4 * k0) 3 b) (47 + 4 * k0 + 1) t tick) 0 10 H) := by
  rw [uI_comm (σ := σ) (o := 47 + 4 * k0) (k := 2) (a := 47 + 4 * k0) (b := 3) (by omega), uI_comm (o := 47 + 4 * k0) (k := 2) (a := 47 + 4 * k0 + 1) (b := t) (by omega), uI_comm (σ := σ) (o := 47 + 4 * k0) (k := 3) (a := 47 + 4 * k0 + 1) (b := t) (by omega)]
  obtain ⟨i1, ⟨i2, i3, i4, i5⟩, i6, B, N, n, nm, ev, ed, ls, W, P, i7⟩ := h
  have g4 := i4.2.2.1
  have g10 : 0 ≤ hI τ 10 k0 := (i3 10 k0).1
  have rt : rI tick := ⟨by omega, by omega⟩
  have rb : rI b := ⟨by omega, by omega⟩
  have rm : rI (m + 1) := ⟨by omega, by omega⟩
  have rH : rI H := ⟨by omega, by omega⟩
  refine ⟨((((i1.u (SCp.c9 hk0 ht) rfl rt).ul (fun o' j' q => by unfold SCp at q; omega)).ur (fun o' j' q => by unfold SCp at q; omega)).u (SCp.c6 hk0) rfl rm).u (SCp.c1 (by omega)) rfl rH, ⟨i2, (((i3.u ⟨show (0 : Int) ≤ tick by omega, show tick ≤ (100000 : Int) by omega⟩).u ⟨show (0 : Int) ≤ b by omega, show b ≤ (5 : Int) by omega⟩).u ⟨show (0 : Int) ≤ m + 1 by omega, show m + 1 ≤ (100000 : Int) by omega⟩).u ⟨rH.1, rH.2⟩, (((i4.ui rt (by omega) (by omega)).ui rb (by omega) (by omega)).ui rm (by omega) (by omega)).ui rH (by omega) (by omega), fun k hk => ?_⟩, ?_, B, N, n, nm, ev, ed, ls, W, P, SBk.ur (SBk.ur (SBk.ur (SBk.ur ((((i7.ul (by omega)).ul (by omega)).ul (by omega)).ul (by omega)) (by omega)) (by omega)) (by omega)) (by omega)⟩
  · have old := i5 k hk
    have eo : ∀ o j, o ≠ 11 → o ≠ 12 → ¬ (o = 10 ∧ j = k0) → ¬ (o = 0 ∧ j = 4) → hI (uI (uI (uI (uI τ 11 (3 * k0 + t) tick) 12 (3 * k0 + t) b) 10 k0 (m + 1)) 0 4 H) o j = hI τ o j := fun o j q1 q2 q3 q4 => by
      rw [hI_uI_n (by omega), hI_uI_n (by omega), hI_uI_n (by omega), hI_uI_n (by omega)]
    by_cases ek : k = k0
    · subst ek
      have e10 : hI (uI (uI (uI (uI τ 11 (3 * k + t) tick) 12 (3 * k + t) b) 10 k (m + 1)) 0 4 H) 10 k = m + 1 := by
        rw [hI_uI_n (by omega)]
        exact hI_uI_e rm
      obtain ⟨o1, o2, o3, o4, o5⟩ := old
      unfold SWk
      rw [e10, eo 3 _ (by omega) (by omega) (by omega) (by omega), eo 0 2 (by omega) (by omega) (by omega) (by omega), eo 13 (3 * k + 1) (by omega) (by omega) (by omega) (by omega), eo 13 (3 * k + 2) (by omega) (by omega) (by omega) (by omega)]
      refine ⟨fun y t' ht' => by rw [eo 13 _ (by omega) (by omega) (by omega) (by omega)]; exact o1 y t' ht', fun y t' ht' => by rw [eo 14 _ (by omega) (by omega) (by omega) (by omega)]; exact o2 y t' ht', o3, fun y => ⟨by have := h2 y; omega, fun t' ht' => ?_⟩, fun y => absurd y hmd⟩
      rw [eo 13 _ (by omega) (by omega) (by omega) (by omega)]
      obtain ⟨z1, z2⟩ := h2 y
      obtain ⟨x1, x2⟩ := (o4 y).2 t' ht'
      rw [hm] at x1 x2
      refine ⟨fun z => by have := x1 z; omega, fun z => ?_⟩
      by_cases z3 : (t' : Int) + 1 < m
      · exact x2 z3
      · have z4 := z2 (by omega)
        rw [show (m - 1).toNat = t' by omega] at z4
        exact z4
    · exact old.of2 (eo 3 _ (by omega) (by omega) (by omega) (by omega)) (fun t' _ => by rw [eo 13 _ (by omega) (by omega) (by omega) (by omega)]) (fun q _ => eo 14 _ (by omega) (by omega) (by omega) (by omega)) (eo 10 _ (by omega) (by omega) (by omega) (by omega)) (Int.le_of_eq (eo 0 2 (by omega) (by omega) (by omega) (by omega)).symm)
  · obtain ⟨x1, x2, x3, x4, x5⟩ := i6
    refine ⟨fun k hk => ?_, fun j => ?_, fun p' hp => ?_, fun p' hp hp2 => ?_, fun k hk => ?_⟩
    · rw [hI_uI_n (by omega), hI_uI_n (by omega)]
      rcases hI_uI_c (σ := uI σ (47 + 4 * k0 + 1) t tick) (o := 47 + 4 * k0) (k := 3) (a := 47 + 4 * k) (b := 3) rb with ⟨e1, e2, e3⟩ | ⟨e1, e3⟩ <;> rw [e3]
      · omega
      · rw [hI_uI_n (by omega)]
        exact x1 k hk
    · rw [hI_uI_n (by omega), hI_uI_n (by omega), hI_uI_n (by omega), hI_uI_n (by omega), hI_uI_n (by omega), hI_uI_n (by omega), hI_uI_n (by omega), hI_uI_n (by omega)]
      exact x2 j
    · rw [hI_uI_n (by omega), hI_uI_n (by omega), hI_uI_n (by omega), hI_uI_n (by omega)] at hp
      rw [hI_uI_n (by omega), hI_uI_n (by omega), hI_uI_n (by omega), hI_uI_n (by omega), hI_uI_n (by omega), hI_uI_n (by omega), hI_uI_n (by omega), hI_uI_n (by omega)]
      exact x3 p' hp
    · rw [hI_uI_n (by omega), hI_uI_n (by omega), hI_uI_n (by omega), hI_uI_n (by omega)] at hp2
      rw [hI_uI_n (by omega), hI_uI_n (by omega), hI_uI_n (by omega), hI_uI_n (by omega)]
      exact x4 p' hp hp2
    · have e3 : hI (uI (uI (uI (uI τ 11 (3 * k0 + t) tick) 12 (3 * k0 + t) b) 10 k0 (m + 1)) 0 4 H) 3 (k % 10) = hI τ 3 (k % 10) := by
        rw [hI_uI_n (by omega), hI_uI_n (by omega), hI_uI_n (by omega), hI_uI_n (by omega)]
      rw [e3]
      by_cases ek : k = k0
      · subst ek
        intro y _
        have t0 := h1 y
        subst t0
        have a1 : hI (uI (uI (uI (uI τ 11 (3 * k + 0) tick) 12 (3 * k + 0) b) 10 k (m + 1)) 0 4 H) 12 (3 * k) = b := by
          rw [hI_uI_n (by omega), hI_uI_n (by omega)]
          exact hI_uI_e rb
        have a2 : hI (uI (uI (uI (uI σ (47 + 4 * k + 1) 0 tick) (47 + 4 * k) 3 b) (47 + 4 * k) 2 (m + 1)) 0 10 H) (47 + 4 * k) 3 = b := by
          rw [hI_uI_n (by omega), hI_uI_n (by omega)]
          exact hI_uI_e rb
        rw [a1, a2]
      · have a0 : hI (uI (uI (uI (uI τ 11 (3 * k0 + t) tick) 12 (3 * k0 + t) b) 10 k0 (m + 1)) 0 4 H) 10 k = hI τ 10 k := by
          rw [hI_uI_n (by omega), hI_uI_n (by omega), hI_uI_n (by omega), hI_uI_n (by omega)]
        have a1 : hI (uI (uI (uI (uI τ 11 (3 * k0 + t) tick) 12 (3 * k0 + t) b) 10 k0 (m + 1)) 0 4 H) 12 (3 * k) = hI τ 12 (3 * k) := by
          rw [hI_uI_n (by omega), hI_uI_n (by omega), hI_uI_n (by omega), hI_uI_n (by omega)]
        have a2 : hI (uI (uI (uI (uI σ (47 + 4 * k0 + 1) t tick) (47 + 4 * k0) 3 b) (47 + 4 * k0) 2 (m + 1)) 0 10 H) (47 + 4 * k) 3 = hI σ (47 + 4 * k) 3 := by
          rw [hI_uI_n (by omega), hI_uI_n (by omega), hI_uI_n (by omega), hI_uI_n (by omega)]
        rw [a0, a1, a2]
        exact x5 k hk
/-- the hand-ins of a group -/
theorem SR.hag {c : Nat} {τ σ : am_HS} (h : SR c τ σ) {p w P : Nat} (hw : w < 10) (h1 : hI τ 3 w = 1) (hmd : (w : Int) < hI τ 0 2) (hP : hI τ 0 1 = (P : Int)) (hp : p < P) (hmc : ∀ k, hI τ 10 k + 1 ≤ (c : Int)) (hb : hI τ 0 4 + 6 ≤ 6 * (c : Int)) (hc : c ≤ 20000) : ∀ k, k ≤ P → cntB (sgM τ p) k = cntB (sgC σ p) k ∧ hI (hallM τ w p k) 0 4 = hI τ 0 4 + (cntB (sgM τ p) k : Int) ∧ (∀ o j, o ≠ 11 → o ≠ 12 → ¬ (o = 0 ∧ j = 4) → ¬ (o = 10 ∧ j < 10 * k + w) → hI (hallM τ w p k) o j = hI τ o j) ∧ SR c (hallM τ w p k) (uI (haC σ w p k) 0 10 (hI σ 0 10 + (cntB (sgC σ p) k : Int))) := by
  intro k
  induction k with
  | zero =>
    intro _
    have z1 : hallM τ w p 0 = τ := rfl
    have z2 : haC σ w p 0 = σ := rfl
    have z3 : ∀ f, cntB f 0 = 0 := fun _ => rfl
    have e : uI σ 0 10 (hI σ 0 10 + ((0 : Nat) : Int)) = σ := by
      rw [show hI σ 0 10 + ((0 : Nat) : Int) = hI σ 0 10 by omega]
      exact uI_self σ 0 10
    rw [z1, z2, z3, z3, e]
    exact ⟨rfl, by omega, fun _ _ _ _ _ _ => rfl, h⟩
  | succ k ih =>
    intro hk
    obtain ⟨i1, i2, i3, i4⟩ := ih (by omega)
    have P6 := h.2.1.2.2.1.2.2.2.2.2.2.2.2.1
    have g4 := h.2.1.2.2.1.2.2.1
    have g3 := h.2.1.2.2.1.2.2.2.2.2.2.1
    have e10 : hI σ 0 10 = hI τ 0 4 := (h.1 0 4 0 10 (SCp.c1 (by omega))).symm
    have e9 : hI σ 0 9 = hI τ 0 3 := (h.1 0 3 0 9 (SCp.c1 (by omega))).symm
    have cl := cntB_le (sgM τ p) k
    have eg : ∀ q : Nat, q < P → hI σ 1 q = hI τ 2 q := fun q hq => h.2.2.1.2.2.1 q (by omega)
    have es : sgM τ p k = sgC σ p k := by
      unfold sgM sgC
      rw [eg k (by omega), eg p hp]
    rw [hallM_s, haC_s, cntB_s, cntB_s, ← es, ← i1, eg k (by omega), eg p hp]
    by_cases z : hI τ 2 k = hI τ 2 p
    · have zs : sgM τ p k = true := decide_eq_true z
      rw [if_pos z, if_pos z, if_pos zs]
      obtain ⟨m, hm⟩ : ∃ m : Int, hI (hallM τ w p k) 10 (10 * k + w) = m := ⟨_, rfl⟩
      have hm0 : hI τ 10 (10 * k + w) = m := (i3 10 (10 * k + w) (by omega) (by omega) (by omega) (by omega)).symm.trans hm
      have hmC : hI (haC σ w p k) (47 + 4 * (10 * k + w)) 2 = m := by
        have := i4.1.mn (k := 10 * k + w) (by omega)
        rw [hI_uI_n (by omega)] at this
        exact this.trans hm
      have mg : 0 ≤ m := by rw [← hm0]; exact (h.2.1.2.1 10 _).1
      have mc := hmc (10 * k + w)
      have e3 : hI (hallM τ w p k) 3 ((10 * k + w) % 10) = 1 := by
        rw [i3 3 _ (by omega) (by omega) (by omega) (by omega), show (10 * k + w) % 10 = w by omega]
        exact h1
      have e2 : hI (hallM τ w p k) 0 2 = hI τ 0 2 := i3 0 2 (by omega) (by omega) (by omega) (by omega)
      have e03 : hI (hallM τ w p k) 0 3 = hI τ 0 3 := i3 0 3 (by omega) (by omega) (by omega) (by omega)
      have hlt : ltS (m + 1) 1 = ((0 : Nat) : Int) := by
        unfold ltS
        rw [if_neg (by omega), if_neg (by decide)]
        rfl
      rw [adC_e hmC hlt (by decide), e9]
      unfold handM
      rw [hm, e03]
      have step := i4.ha1 (k0 := 10 * k + w) (t := 0) (m := m) (tick := hI τ 0 3) (b := (p : Int)) (H := hI (hallM τ w p k) 0 4 + 1) (by omega) (by decide) hm (by omega) g3 (by omega) (fun y => absurd (e3.symm.trans y) (by decide)) (fun _ => rfl) (by omega) rfl (by omega) hc
      have r4 : rI (hI (hallM τ w p k) 0 4 + 1) := ⟨by omega, by omega⟩
      refine ⟨rfl, ?_, fun o j q1 q2 q3 q4 => ?_, ?_⟩
      · rw [hI_uI_e r4, i2]
        omega
      · rw [hI_uI_n (by omega), hI_uI_n (by omega), hI_uI_n (by omega), hI_uI_n (by omega)]
        exact i3 o j q1 q2 q3 (by omega)
      · rw [uI_comm (σ := haC σ w p k) (o := 0) (k := 10) (a := 47 + 4 * (10 * k + w)) (b := 2) (by omega), uI_comm (o := 0) (k := 10) (a := 47 + 4 * (10 * k + w)) (b := 3) (by omega), uI_comm (o := 0) (k := 10) (a := 47 + 4 * (10 * k + w) + 1) (b := 0) (by omega), uI_uI] at step
        rw [show hI σ 0 10 + ((cntB (sgM τ p) k + 1 : Nat) : Int) = hI (hallM τ w p k) 0 4 + 1 by omega]
        exact step
    · have zs : ¬ sgM τ p k = true := fun y => z (of_decide_eq_true y)
      rw [if_neg z, if_neg z, if_neg zs]
      refine ⟨rfl, i2, fun o j q1 q2 q3 q4 => i3 o j q1 q2 q3 (by omega), ?_⟩
      rw [← i1] at i4
      exact i4
end
