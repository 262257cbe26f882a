section
/-! BOTH: work, show, need, text -/
theorem sm_work {c : Nat} (hc : c ≤ 10000) {τ σ : am_HS} (h : SR c τ σ) (k m t l : Int) : SimD c τ σ mX7_work mX6_work [vI k, vI m, vI t, vI l] := by
  obtain ⟨b, hb⟩ := h.fb
  have hg := h.gm hc
  have g1 := hg.1
  have g2 := hg.2.1
  refine ⟨_, _, cm_work (by decide) τ h.2.1.1 h.2.1.2.1 hg k m t l, cc6_work (by decide) σ hb (h.gc hc) k m t l, ?_⟩
  intro z s z' s' q q'
  rw [h.1.W] at q'
  rcases q with ⟨a, rfl, rfl⟩ | ⟨a, a2, rfl, rfl⟩ | ⟨a, a2, a3, rfl, rfl⟩ | ⟨a, a2, a3, rfl, rfl⟩ <;> rcases q' with ⟨a', rfl, rfl⟩ | ⟨a', a2', rfl, rfl⟩ | ⟨a', a2', a3', rfl, rfl⟩ | ⟨a', a2', a3', rfl, rfl⟩
  · exact ⟨rfl, h.rf hc (by decide)⟩
  · exact absurd a' a
  · exact absurd a' a
  · exact absurd a' a
  · exact absurd a a'
  · exact ⟨rfl, h.rf hc (by decide)⟩
  · exact absurd a2 a2'
  · exact absurd a2 a2'
  · exact absurd a a'
  · exact absurd a2' a2
  · exact ⟨rfl, h.rf hc (by decide)⟩
  · exact absurd a3 a3'
  · exact absurd a a'
  · exact absurd a2' a2
  · exact absurd a3' a3
  · refine ⟨rfl, ?_⟩
    obtain ⟨W', hW'⟩ : ∃ W' : Nat, hI τ 0 2 = (W' : Int) := ⟨(hI τ 0 2).toNat, by omega⟩
    have hWn : (hI τ 0 2).toNat = W' := by omega
    rw [hWn, hW']
    have w10 : W' < 10 := by omega
    rw [uI_comm (σ := σ) (o := 0) (k := 8) (a := 37 + W') (b := 0) (by omega), uI_comm (o := 0) (k := 8) (a := 37 + W') (b := 1) (by omega), uI_comm (o := 0) (k := 8) (a := 37 + W') (b := 2) (by omega), uI_comm (o := 0) (k := 8) (a := 37 + W') (b := 3) (by omega)]
    obtain ⟨h1, ⟨h2, h3, h4, h5⟩, h6, b, N, n, nm, ev, ed, ls, W, P, h7⟩ := h.up
    have rk : rI k := ⟨by omega, by omega⟩
    have rm : rI m := ⟨by omega, by omega⟩
    have rt : rI t := ⟨by omega, by omega⟩
    have rl : rI l := ⟨by omega, by omega⟩
    have rw' : rI ((W' : Int) + 1) := ⟨by omega, by omega⟩
    have hWW : W = W' := by have := h7.2.2.2.2.2.2.2.1; omega
    have e3 : ∀ j, j ≠ W' → hI (uI (uI (uI (uI (uI τ 3 W' k) 4 W' m) 5 W' t) 6 W' l) 0 2 ((W' : Int) + 1)) 3 j = hI τ 3 j := fun j hj => by
      rw [hI_uI_n (by omega), hI_uI_n (by omega), hI_uI_n (by omega), hI_uI_n (by omega), hI_uI_n (by omega)]
    have eo : ∀ o j, ¬ (3 ≤ o ∧ o ≤ 6) → ¬ (o = 0 ∧ j = 2) → hI (uI (uI (uI (uI (uI τ 3 W' k) 4 W' m) 5 W' t) 6 W' l) 0 2 ((W' : Int) + 1)) o j = hI τ o j := fun o j ho hj => by
      rw [hI_uI_n (by omega), hI_uI_n (by omega), hI_uI_n (by omega), hI_uI_n (by omega), hI_uI_n (by omega)]
    have eo' : ∀ o j, ¬ (37 ≤ o ∧ o < 47) → ¬ (o = 0 ∧ j = 8) → hI (uI (uI (uI (uI (uI σ (37 + W') 0 k) (37 + W') 1 m) (37 + W') 2 t) (37 + W') 3 l) 0 8 ((W' : Int) + 1)) o j = hI σ o j := fun o j ho hj => by
      rw [hI_uI_n (by omega), hI_uI_n (by omega), hI_uI_n (by omega), hI_uI_n (by omega), hI_uI_n (by omega)]
    have e02 : hI (uI (uI (uI (uI (uI τ 3 W' k) 4 W' m) 5 W' t) 6 W' l) 0 2 ((W' : Int) + 1)) 0 2 = (W' : Int) + 1 := hI_uI_e rw'
    refine ⟨((((h1.u (SCp.c4 (by omega)) rfl rk).u (SCp.c4 (by omega)) rfl rm).u (SCp.c4 (by omega)) rfl rt).u (SCp.c4 (by omega)) rfl rl).u (SCp.c1 (by omega)) rfl rw', ⟨h2, ((((h3.u ⟨show (0 : Int) ≤ k by omega, show k ≤ (3 : Int) by omega⟩).u ⟨show (0 : Int) ≤ m by omega, show m ≤ (20 : Int) by omega⟩).u ⟨show (0 : Int) ≤ t by omega, show t ≤ (100000 : Int) by omega⟩).u ⟨show (0 : Int) ≤ l by omega, show l ≤ (100 : Int) by omega⟩).u ⟨rw'.1, rw'.2⟩, ((((h4.ui rk (by omega) (by omega)).ui rm (by omega) (by omega)).ui rt (by omega) (by omega)).ui rl (by omega) (by omega)).ui rw' (by omega) (by omega), fun j hj => ?_⟩, ?_, b, N, n, nm, ev, ed, ls, W' + 1, P, ?_⟩
    · have old := h5 j hj
      by_cases z : j % 10 = W'
      · obtain ⟨o1, o2, o3⟩ := old.2.2.2.2 (by omega)
        have x1 : ∀ t', t' < 3 → hI (uI (uI (uI (uI (uI τ 3 W' k) 4 W' m) 5 W' t) 6 W' l) 0 2 ((W' : Int) + 1)) 13 (3 * j + t') < 0 := fun t' ht' => by rw [eo 13 _ (by omega) (by omega)]; exact o2 t' ht'
        have x2 : ∀ t', t' < 6 → hI (uI (uI (uI (uI (uI τ 3 W' k) 4 W' m) 5 W' t) 6 W' l) 0 2 ((W' : Int) + 1)) 14 (6 * j + t') < 0 := fun t' ht' => by rw [eo 14 _ (by omega) (by omega)]; exact o3 t' ht'
        have x3 : hI (uI (uI (uI (uI (uI τ 3 W' k) 4 W' m) 5 W' t) 6 W' l) 0 2 ((W' : Int) + 1)) 10 j = 0 := by rw [eo 10 _ (by omega) (by omega)]; exact o1
        refine ⟨fun _ => x1, fun _ => x2, fun _ => ⟨x1 1 (by decide), x1 2 (by decide)⟩, fun _ => ⟨by rw [x3]; decide, fun t' ht' => ⟨fun y => absurd (x1 t' ht') (by omega), fun y => ?_⟩⟩, fun _ => ⟨x3, x1, x2⟩⟩
        rw [x3] at y
        omega
      · exact old.of2 (e3 _ z) (fun t' _ => by rw [eo 13 _ (by omega) (by omega)]) (fun q _ => eo 14 _ (by omega) (by omega)) (eo 10 _ (by omega) (by omega)) (by rw [e02]; omega)
    · obtain ⟨x1, x2, x3, x4, x5⟩ := h6
      refine ⟨fun k hk => ?_, fun j => ?_, fun p' hp => ?_, fun p' hp hp2 => ?_, fun k hk => ?_⟩
      · rw [eo' _ _ (by omega) (by omega)]; exact x1 k hk
      · rw [eo' _ _ (by omega) (by omega), eo _ _ (by omega) (by omega)]; exact x2 j
      · rw [eo _ _ (by omega) (by omega)] at hp
        rw [eo' _ _ (by omega) (by omega), eo _ _ (by omega) (by omega)]
        exact x3 p' hp
      · rw [eo _ _ (by omega) (by omega)] at hp2
        rw [eo _ _ (by omega) (by omega)]
        exact x4 p' hp hp2
      · rw [eo' _ _ (by omega) (by omega), eo 10 _ (by omega) (by omega), eo 12 _ (by omega) (by omega)]
        by_cases z : k % 10 = W'
        · intro _ y
          have := ((h5 k hk).2.2.2.2 (by omega)).1
          omega
        · rw [e3 _ z]
          exact x5 k hk
    · obtain ⟨y1, y2, y3, y4, y5, y6, y7, y8, y9, y10, y11, y12⟩ := h7
      have e7 : ∀ w, hI (uI (uI (uI (uI (uI τ 3 W' k) 4 W' m) 5 W' t) 6 W' l) 0 2 ((W' : Int) + 1)) 7 w = hI τ 7 w := fun w => eo 7 w (by omega) (by omega)
      refine ⟨(eo 0 42 (by omega) (by omega)).trans y1, y2.of (fun o k hk => eo o k (by unfold bkc at hk; omega) (by unfold bkc at hk; omega)), y3, y4, y5.of (fun o k hk => eo' o k (by unfold cbc at hk; omega) (by unfold cbc at hk; omega)), y6, (eo 0 1 (by omega) (by omega)).trans y7, e02.trans (by omega), y9.of rfl (eo' 5 6 (by omega) (by omega)), fun r a hr he => by have := y10 r a hr he; omega, ?_, fun w hw => ?_⟩
      · rw [show (fun w => hI (uI (uI (uI (uI (uI τ 3 W' k) 4 W' m) 5 W' t) 6 W' l) 0 2 ((W' : Int) + 1)) 7 w) = fun w => hI τ 7 w from funext e7]
        rintro ⟨j, hk, q⟩
        refine y11 ⟨j, hk, (rch_congr (fun i b => ?_) 22 j j).mp q⟩
        unfold EdW
        refine or_congr Iff.rfl ⟨fun ⟨a, q1, q2, q3, q4, q5⟩ => ?_, fun ⟨a, q1, q2, q3, q4, q5⟩ => ?_⟩
        · have q6 : 0 ≤ hI τ 7 a := q3
          have : a ≠ W' := fun z => by
            have := (y12 a (by omega)).2 (by omega)
            omega
          exact ⟨a, by omega, q2, q3, q4, q5⟩
        · exact ⟨a, by omega, q2, q3, q4, q5⟩
      · rw [e7 w]
        exact ⟨(y12 w hw).1, fun z => (y12 w hw).2 (by omega)⟩
end
