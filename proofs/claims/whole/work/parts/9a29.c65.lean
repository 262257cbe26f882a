section
/-! BOTH: pupil, group, work, appeal, show -/
theorem SWk.of2 {τ s : am_HS} {k : Nat} (h : SWk τ k) (e3 : hI s 3 (k % 10) = hI τ 3 (k % 10)) (e13 : ∀ t, t < 3 → (0 ≤ hI s 13 (3 * k + t) ↔ 0 ≤ hI τ 13 (3 * k + t))) (e14 : ∀ q, q < 6 → hI s 14 (6 * k + q) = hI τ 14 (6 * k + q)) (e10 : hI s 10 k = hI τ 10 k) (e2 : hI τ 0 2 ≤ hI s 0 2) : SWk s k := by
  unfold SWk
  rw [e3, e10]
  obtain ⟨h1, h2, h3, h4, h5⟩ := h
  have n13 : ∀ t, t < 3 → hI τ 13 (3 * k + t) < 0 → hI s 13 (3 * k + t) < 0 := fun t ht q => Int.lt_of_not_ge (fun z => absurd ((e13 t ht).mp z) (by omega))
  refine ⟨fun q t ht => n13 t ht (h1 q t ht), fun q t ht => by rw [e14 t ht]; exact h2 q t ht, fun q => ⟨n13 1 (by decide) (h3 q).1, n13 2 (by decide) (h3 q).2⟩, fun q => ⟨(h4 q).1, fun t ht => ⟨fun z => ((h4 q).2 t ht).1 ((e13 t ht).mp z), fun z => (e13 t ht).mpr (((h4 q).2 t ht).2 z)⟩⟩, fun q => ?_⟩
  have q2 := h5 (Int.le_trans e2 q)
  exact ⟨q2.1, fun t ht => n13 t ht (q2.2.1 t ht), fun t ht => by rw [e14 t ht]; exact q2.2.2 t ht⟩
theorem sm_pupil {c : Nat} (hc : c ≤ 10000) {τ σ : am_HS} (h : SR c τ σ) : SimD c τ σ mX7_pupil mX6_pupil [] := by
  obtain ⟨b, hb⟩ := h.fb
  have hg := h.gm hc
  have g1 := hg.1
  refine ⟨_, _, cm_pupil (by decide) τ h.2.1.1 hg.1 hg.2.2, cc6_pupil (by decide) σ hb (h.gc hc), ?_⟩
  intro z s z' s' q q'
  rw [h.1.P] at q'
  rcases q with ⟨a, rfl, rfl⟩ | ⟨a, rfl, rfl⟩ <;> rcases q' with ⟨a', rfl, rfl⟩ | ⟨a', rfl, rfl⟩
  · exact ⟨rfl, h.rf hc (by decide)⟩
  · omega
  · omega
  · refine ⟨rfl, ?_⟩
    obtain ⟨h1, ⟨h2, h3, h4, h5⟩, h6, b, N, n, nm, ev, ed, ls, W, P, h7⟩ := h.up
    have hr : rI (hI τ 0 1 + 1) := ⟨by omega, by omega⟩
    have hr0 : rI (hI τ 0 1) := ⟨by omega, by omega⟩
    refine ⟨(h1.ur (fun o' j' q => by unfold SCp at q; omega)).u (SCp.c1 (by omega)) rfl hr, ⟨h2, h3.u ⟨hr.1, hr.2⟩, h4.ui hr (by omega) (by omega), fun k hk => (h5 k hk).ul (by omega)⟩, ?_, b, N, n, nm, ev, ed, ls, W, P + 1, ?_⟩
    · obtain ⟨x1, x2, x3, x4, x5⟩ := h6
      refine ⟨fun k hk => ?_, fun j => ?_, fun p hp => ?_, fun p hp hp2 => ?_, fun k hk => ?_⟩
      · rw [hI_uI_n (by omega), hI_uI_n (by omega)]; exact x1 k hk
      · rw [hI_uI_n (by omega), hI_uI_n (by omega), hI_uI_n (by omega)]; exact x2 j
      · rw [hI_uI_e hr] at hp
        rw [hI_uI_n (a := 1) (by omega), hI_uI_n (a := 2) (by omega)]
        by_cases e : p = (hI τ 0 1).toNat
        · rw [e, hI_uI_e hr0, x4 _ (by omega) (by omega)]
          omega
        · rw [hI_uI_n (by omega)]
          exact x3 p (by omega)
      · rw [hI_uI_e hr] at hp2
        rw [hI_uI_n (by omega)]
        exact x4 p hp (by omega)
      · rw [hI_uI_n (by omega), hI_uI_n (by omega), hI_uI_n (by omega), hI_uI_n (by omega), hI_uI_n (by omega)]; exact x5 k hk
    · obtain ⟨y1, y2, y3, y4, y5, y6, y7, y8, y9, y10, y11, y12⟩ := h7
      refine ⟨(hI_uI_n (by omega)).trans y1, y2.of (fun o k hk => hI_uI_n (by unfold bkc at hk; omega)), y3, y4, y5.of (fun o k hk => (hI_uI_n (by unfold cbc at hk; omega)).trans (hI_uI_n (by unfold cbc at hk; omega))), y6, (hI_uI_e hr).trans (by omega), (hI_uI_n (by omega)).trans y8, (y9.u (by omega)).u (by omega), y10, y11, y12⟩
theorem sm_group {c : Nat} (hc : c ≤ 10000) {τ σ : am_HS} (h : SR c τ σ) (p g : Int) : SimD c τ σ mX7_group mX6_group [vI p, vI g] := by
  obtain ⟨b, hb⟩ := h.fb
  have hg := h.gm hc
  have g1 := hg.1
  refine ⟨_, _, cm_group (by decide) τ h.2.1.1 hg.1 hg.2.2 p g, cc6_group (by decide) σ hb (h.gc hc) p g, ?_⟩
  intro z s z' s' q q'
  rw [h.1.P] at q'
  rcases q with ⟨a, rfl, rfl⟩ | ⟨a, rfl, rfl⟩ <;> rcases q' with ⟨a', rfl, rfl⟩ | ⟨a', rfl, rfl⟩
  · exact ⟨rfl, h.rf hc (by decide)⟩
  · exact absurd a' a
  · exact absurd a a'
  · obtain ⟨h1, ⟨h2, h3, h4, h5⟩, h6, b, N, n, nm, ev, ed, ls, W, P, h7⟩ := h.up
    have hr : rI g := ⟨by omega, by omega⟩
    refine ⟨(h6.2.2.1 p.toNat (by omega)).symm, (h1.ul (fun o' j' q => by unfold SCp at q; omega)).ur (fun o' j' q => by unfold SCp at q; omega), ⟨h2, h3.u ⟨show (0 : Int) ≤ g by omega, show g ≤ (5 : Int) by omega⟩, h4.ui hr (by omega) (by omega), fun k hk => (h5 k hk).ul (by omega)⟩, ?_, b, N, n, nm, ev, ed, ls, W, P, (h7.ul (by omega)).ur (by omega)⟩
    obtain ⟨x1, x2, x3, x4, x5⟩ := h6
    refine ⟨fun k hk => ?_, fun j => ?_, fun p' hp => ?_, fun p' hp hp2 => ?_, fun k hk => ?_⟩
    · rw [hI_uI_n (by omega)]; exact x1 k hk
    · rw [hI_uI_n (by omega), hI_uI_n (by omega)]; exact x2 j
    · rw [hI_uI_n (by omega)] at hp
      by_cases e : p' = p.toNat
      · rw [e, hI_uI_e hr, hI_uI_e hr]
      · rw [hI_uI_n (by omega), hI_uI_n (by omega)]
        exact x3 p' hp
    · rw [hI_uI_n (by omega)] at hp2
      rw [hI_uI_n (by omega)]
      exact x4 p' hp hp2
    · rw [hI_uI_n (by omega), hI_uI_n (by omega), hI_uI_n (by omega), hI_uI_n (by omega)]; exact x5 k hk
theorem sm_appeal {c : Nat} (hc : c ≤ 10000) {τ σ : am_HS} (h : SR c τ σ) (p w v : Int) : SimD c τ σ mX7_appeal mX6_appeal [vI p, vI w, vI v] := by
  obtain ⟨b, hb⟩ := h.fb
  have hg := h.gm hc
  have g1 := hg.1
  have g2 := hg.2.1
  have e12 : hI σ 0 12 = hI τ 0 6 := (h.1 0 6 0 12 (SCp.c1 (by omega))).symm
  have g6 := h.2.1.2.2.1.2.2.2.2.1
  refine ⟨_, _, cm_appeal (by decide) τ h.2.1.1 h.2.1.2.1 hg (by omega) p w v, cc6_appeal (by decide) σ hb (h.gc hc) h.rgc (by omega) p w v, ?_⟩
  intro z s z' s' q q'
  rw [h.1.P, h.1.W] at q'
  rcases q with ⟨a, rfl, rfl⟩ | ⟨a, q⟩ <;> rcases q' with ⟨a', rfl, rfl⟩ | ⟨a', q'⟩
  · exact ⟨rfl, h.rf hc (by decide)⟩
  · exact absurd a' a
  · exact absurd a a'
  obtain ⟨pn, hpn⟩ : ∃ pn : Nat, p.toNat = pn := ⟨_, rfl⟩
  obtain ⟨wn, hwn⟩ : ∃ wn : Nat, w.toNat = wn := ⟨_, rfl⟩
  rw [hpn, hwn] at q q'
  have hp6 : pn < 6 := by omega
  have hw10 : wn < 10 := by omega
  rw [h.1.kd hw10, h.1.mo hw10, h.lm hp6 hw10, e12] at q'
  have b4 : 0 ≤ hI τ 4 wn ∧ hI τ 4 wn ≤ 20 := h.2.1.2.1 4 wn
  rcases q with ⟨a, rfl, rfl⟩ | ⟨a, q⟩ <;> rcases q' with ⟨a', rfl, rfl⟩ | ⟨a', q'⟩
  · exact ⟨rfl, h.rf hc (by decide)⟩
  · exact absurd a a'
  · exact absurd a' a
  rcases q with ⟨a1, rfl, rfl⟩ | ⟨a1, a2, rfl, rfl⟩ | ⟨a1, a2, rfl, rfl⟩ <;> rcases q' with ⟨a1', rfl, rfl⟩ | ⟨a1', a2', rfl, rfl⟩ | ⟨a1', a2', rfl, rfl⟩
  · exact ⟨rfl, h.rf hc (by decide)⟩
  · omega
  · omega
  · omega
  · exact ⟨rfl, h.rf hc (by decide)⟩
  · omega
  · omega
  · omega
  · have h0 : 0 ≤ apT τ pn wn := by omega
    have h3 : apT τ pn wn < 3 := by unfold apT; repeat' split
                                    all_goals omega
    obtain ⟨t, ht⟩ : ∃ t : Nat, apT τ pn wn = (t : Int) := ⟨(apT τ pn wn).toNat, by omega⟩
    have hm : 0 ≤ hI τ 13 (3 * (10 * pn + wn) + t) := by
      unfold apT at ht
      by_cases z2 : 0 ≤ hI τ 13 (3 * (10 * pn + wn) + 2)
      · rw [if_pos z2] at ht
        have : t = 2 := by omega
        rw [this]; exact z2
      · rw [if_neg z2] at ht
        by_cases z1 : 0 ≤ hI τ 13 (3 * (10 * pn + wn) + 1)
        · rw [if_pos z1] at ht
          have : t = 1 := by omega
          rw [this]; exact z1
        · rw [if_neg z1] at ht
          by_cases z0 : 0 ≤ hI τ 13 (3 * (10 * pn + wn) + 0)
          · rw [if_pos z0] at ht
            have : t = 0 := by omega
            rw [this]; exact z0
          · rw [if_neg z0] at ht
            omega
    rw [ht]
    have et : ((t : Int)).toNat = t := by omega
    rw [et]
    have hr : rI v := ⟨by omega, by omega⟩
    have hr6 : rI (hI τ 0 6 + 1) := ⟨by omega, by omega⟩
    refine ⟨(h.1.mk (by omega) (by omega)).symm, ?_⟩
    rw [uI_comm (σ := σ) (o := 0) (k := 12) (a := 47 + 4 * (10 * pn + wn) + 2) (b := t) (by omega)]
    have s1 : SR (c + 1) (uI τ 13 (3 * (10 * pn + wn) + t) v) (uI σ (47 + 4 * (10 * pn + wn) + 2) t v) := by
      refine h.up.w (SCp.c8 (by omega) (by omega)) rfl hr ⟨show (-1 : Int) ≤ v by omega, show v ≤ (20 : Int) by omega⟩ (h.up.2.1.2.2.1.ui hr (by omega) (by omega)) (fun k hk => (h.2.1.2.2.2 k hk).of2 (hI_uI_n (by omega)) (fun t' ht' => ?_) (fun _ _ => hI_uI_n (by omega)) (hI_uI_n (by omega)) (Int.le_of_eq (hI_uI_n (by omega)).symm)) (by omega) (by omega) (by omega) (by omega)
      rcases hI_uI_c (σ := τ) (o := 13) (k := 3 * (10 * pn + wn) + t) (a := 13) (b := 3 * k + t') hr with ⟨e1, e2, e3⟩ | ⟨e1, e3⟩ <;> rw [e3]
      rw [e2]
      exact ⟨fun _ => hm, fun _ => a1⟩
    exact s1.w (SCp.c1 (by omega)) rfl hr6 ⟨hr6.1, hr6.2⟩ (s1.2.1.2.2.1.ui hr6 (by omega) (by omega)) (fun k hk => (s1.2.1.2.2.2 k hk).ul (by omega)) (by omega) (by omega) (by omega) (by omega)
end
