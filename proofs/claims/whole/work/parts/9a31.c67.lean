section
/-! BOTH: show, need, text -/
theorem sm_show {c : Nat} (hc : c ≤ 10000) {τ σ : am_HS} (h : SR c τ σ) (e p w v : Int) : SimD c τ σ mX7_show mX6_show [vI e, vI p, vI w, vI v] := by
  obtain ⟨b, N, n, nm, ev, ed, ls, W, P, h7⟩ := h.2.2.2
  have hP : hI τ 0 1 = (P : Int) := h7.2.2.2.2.2.2.1
  have hg := h.gm hc
  have g1 := hg.1
  have g2 := hg.2.1
  have e11 : hI σ 0 11 = hI τ 0 5 := (h.1 0 5 0 11 (SCp.c1 (by omega))).symm
  have g5 := h.2.1.2.2.1.2.2.2.1
  refine ⟨_, _, cm_show (by decide) τ h.2.1.1 h.2.1.2.1 hg (by omega) P hP e p w v, cc6_show (by decide) σ h7.2.2.1 (h.gc hc) h.rgc (by omega) P (h.1.P.trans hP) e p w v, ?_⟩
  intro z s z' s' q q'
  rw [h.1.P, h.1.W] at q'
  rcases q with ⟨a, rfl, rfl⟩ | ⟨a, q⟩ <;> rcases q' with ⟨a', rfl, rfl⟩ | ⟨a', q'⟩
  · exact ⟨rfl, h.rf hc (by decide)⟩
  · exact absurd a' a
  · exact absurd a a'
  obtain ⟨pn, hpn⟩ : ∃ pn : Nat, p.toNat = pn := ⟨_, rfl⟩
  obtain ⟨wn, hwn⟩ : ∃ wn : Nat, w.toNat = wn := ⟨_, rfl⟩
  obtain ⟨en, hen⟩ : ∃ en : Nat, e.toNat = en := ⟨_, rfl⟩
  rw [hpn, hwn, hen] at q q'
  have hp6 : pn < 6 := by omega
  have hw10 : wn < 10 := by omega
  have he6 : en < 6 := by omega
  have ep : ∀ i : Int, peS (mnC σ wn) P pn i = peS (mnM τ wn) P pn i := fun i => peS_cg (fun q hq => h.1.mn (by omega)) (by omega) i
  rw [h.1.kd hw10, h.1.mo hw10, ep, ep, h.1.mn (k := 10 * pn + wn) (by omega), h.1.pe (k := 10 * pn + wn) (by omega) he6, e11] at q'
  have b4 : 0 ≤ hI τ 4 wn ∧ hI τ 4 wn ≤ 20 := h.2.1.2.1 4 wn
  rcases q with ⟨a, rfl, rfl⟩ | ⟨a, q⟩ <;> rcases q' with ⟨a', rfl, rfl⟩ | ⟨a', q'⟩
  · exact ⟨rfl, h.rf hc (by decide)⟩
  · exact absurd a' a
  · exact absurd a a'
  rcases q with ⟨a1, rfl, rfl⟩ | ⟨a1, a2, rfl, rfl⟩ | ⟨a1, a2, es, ez⟩ <;> rcases q' with ⟨a1', rfl, rfl⟩ | ⟨a1', a2', rfl, rfl⟩ | ⟨a1', a2', es', ez'⟩
  · exact ⟨rfl, h.rf hc (by decide)⟩
  · omega
  · omega
  · omega
  · exact ⟨rfl, h.rf hc (by decide)⟩
  · omega
  · omega
  · omega
  · have hr : rI v := ⟨by omega, by omega⟩
    have hr5 : rI (hI τ 0 5 + 1) := ⟨by omega, by omega⟩
    have key : SR (c + 1) s s' := by
      rw [es, es', uI_comm (σ := σ) (o := 0) (k := 11) (a := 47 + 4 * (10 * pn + wn) + 3) (b := en) (by omega)]
      have s1 : SR (c + 1) (uI τ 14 (6 * (10 * pn + wn) + en) v) (uI σ (47 + 4 * (10 * pn + wn) + 3) en v) := by
        refine h.up.w (SCp.c10 (by omega) he6) rfl hr ⟨show (-1 : Int) ≤ v by omega, show v ≤ (20 : Int) by omega⟩ (h.up.2.1.2.2.1.ui hr (by omega) (by omega)) (fun k hk => ?_) (by omega) (by omega) (by omega) (by omega)
        by_cases ek : k = 10 * pn + wn
        · have old := h.2.1.2.2.2 k hk
          have k3 : hI τ 3 (k % 10) = 3 := by rw [show k % 10 = wn by omega]; exact a.1.1
          refine ⟨fun _ t ht => ?_, fun y => ?_, fun y => ?_, fun y => ?_, fun y => ?_⟩
          · rw [hI_uI_n (by omega)]; exact old.1 k3 t ht
          · rw [hI_uI_n (by omega)] at y; exact absurd k3 y
          · rw [hI_uI_n (by omega), hI_uI_n (by omega)]; exact ⟨old.1 k3 1 (by decide), old.1 k3 2 (by decide)⟩
          · rw [hI_uI_n (by omega)] at y; omega
          · rw [hI_uI_n (by omega)] at y; omega
        · exact (h.2.1.2.2.2 k hk).of2 (hI_uI_n (by omega)) (fun t ht => by rw [hI_uI_n (by omega)]) (fun q hq => hI_uI_n (by omega)) (hI_uI_n (by omega)) (Int.le_of_eq (hI_uI_n (by omega)).symm)
      exact s1.w (SCp.c1 (by omega)) rfl hr5 ⟨hr5.1, hr5.2⟩ (s1.2.1.2.2.1.ui hr5 (by omega) (by omega)) (fun k hk => (s1.2.1.2.2.2 k hk).ul (by omega)) (by omega) (by omega) (by omega) (by omega)
    exact ⟨by rw [ez, ez', key.sh hp6 hw10], key⟩
theorem sm_need {c : Nat} (hc : c ≤ 10000) {τ σ : am_HS} (h : SR c τ σ) (w r q : Int) : SimD c τ σ mX7_need mX6_need [vI w, vI r, vI q] := by
  obtain ⟨b, N, n, nm, ev, ed, ls, W, P, h7⟩ := h.2.2.2
  obtain ⟨lo, hi, ρ, hR⟩ := h7.2.1.bk h7.1
  obtain ⟨fr, f1, f2, f3, f4⟩ := h7.2.1.em
  have hg := h.gm hc
  have g2 := hg.2.1
  have hW : hI τ 0 2 = (W : Int) := h7.2.2.2.2.2.2.2.1
  have hn12 := h7.2.1.2.1
  refine ⟨_, _, cm_need (by decide) τ h.2.1.1 h.2.1.2.1 hg hR h7.2.1.2.2.1 fr W f1 f2 hW f3 w r q, cc6_need (by decide) σ (h.cg hc h7) w r q, ?_⟩
  intro z s z' s' y y'
  rw [h.1.W] at y'
  by_cases a : (0 ≤ w ∧ w < hI τ 0 2) ∧ (r = -1 ∨ (0 ≤ r ∧ r < (n : Int)))
  · have rr : rI r := ⟨by omega, by omega⟩
    have e0 : (∃ k, k < 22 ∧ rch (EM (uI τ 7 w.toNat r) N n W fr) 22 k k) ↔ (∃ k, k < 22 ∧ rch (EdW ed n W (fun a => hI (uI τ 7 w.toNat r) 7 a)) 22 k k) := exists_congr fun k => and_congr Iff.rfl (rch_congr (f4 W _ (fun j => hI_uI_n (by omega)) (fun j => hI_uI_n (by omega))) 22 k k)
    have e1 := SR.nring (ed := ed) (nd := fun a => hI τ 7 a) (nd' := fun a => hI (uI τ 7 w.toNat r) 7 a) (w := w.toNat) (r := r) hn12 (by omega) h7.2.2.2.2.2.1.2.2.2.1 (by omega) (hI_uI_e rr) (fun a ha => hI_uI_n (by omega)) a.2 h7.2.2.2.2.2.2.2.2.2.2.1
    have e2 : rch (EdW ed n W (fun w => hI σ (37 + w) 4)) 22 r.toNat (12 + w.toNat) ↔ rch (EdW ed n W (fun w => hI τ 7 w)) 22 r.toNat (12 + w.toNat) := rch_congr (h.edw ed n (by omega)) 22 _ _
    have e3 := e0.trans (e1.trans (and_congr Iff.rfl e2.symm))
    rcases y with ⟨y, _⟩ | ⟨_, y1, rfl, rfl⟩ | ⟨_, y1, rfl, rfl⟩ | ⟨_, y1, y2, y3, rfl, f⟩ | ⟨_, y1, y2, y3, rfl, f⟩
    · exact absurd a y
    · rcases y' with ⟨y, _⟩ | ⟨_, y1', rfl, rfl⟩ | ⟨_, y1', rfl, rfl⟩ | ⟨_, y1', y2', y3', rfl, rfl⟩ | ⟨_, y1', y2', y3', rfl, rfl⟩
      · exact absurd a y
      · exact ⟨rfl, h.rf hc (by decide)⟩
      · omega
      · exact absurd y1 (Int.not_lt.mpr y1')
      · exact absurd y1 (Int.not_lt.mpr y1')
    · rcases y' with ⟨y, _⟩ | ⟨_, y1', rfl, rfl⟩ | ⟨_, y1', rfl, rfl⟩ | ⟨_, y1', y2', y3', rfl, rfl⟩ | ⟨_, y1', y2', y3', rfl, rfl⟩
      · exact absurd a y
      · omega
      · exact ⟨rfl, h.rf hc (by decide)⟩
      · exact absurd y1 (Int.not_lt.mpr y2')
      · exact absurd y1 (Int.not_lt.mpr y2')
    · rcases y' with ⟨y, _⟩ | ⟨_, y1', rfl, rfl⟩ | ⟨_, y1', rfl, rfl⟩ | ⟨_, y1', y2', y3', rfl, rfl⟩ | ⟨_, y1', y2', y3', rfl, rfl⟩
      · exact absurd a y
      · exact absurd y1' (Int.not_lt.mpr y1)
      · exact absurd y1' (Int.not_lt.mpr y2)
      · exact ⟨rfl, (h.rf hc (by decide)).fr f (FrR.rf _) (h.rk.u (by omega))⟩
      · exact absurd (e3.mp y3) y3'
    · rcases y' with ⟨y, _⟩ | ⟨_, y1', rfl, rfl⟩ | ⟨_, y1', rfl, rfl⟩ | ⟨_, y1', y2', y3', rfl, rfl⟩ | ⟨_, y1', y2', y3', rfl, rfl⟩
      · exact absurd a y
      · exact absurd y1' (Int.not_lt.mpr y1)
      · exact absurd y1' (Int.not_lt.mpr y2)
      · exact absurd (e3.mpr y3') y3
      · refine ⟨rfl, ?_⟩
        have y4 := fun z => y3 (e0.mpr z)
        clear y3 y3' e0 e1 e2 e3 f4 f3 f2 f1
        have rq : rI q := ⟨by omega, by omega⟩
        have new : SR (c + 1) (uI (uI τ 7 w.toNat r) 8 w.toNat q) (uI (uI σ (37 + w.toNat) 4 r) (37 + w.toNat) 5 q) := by
          obtain ⟨h1, ⟨h2, h3, h4, h5⟩, h6, _⟩ := h.up
          refine ⟨(h1.u (SCp.c4 (by omega)) rfl rr).u (SCp.c4 (by omega)) rfl rq, ⟨h2, (h3.u ⟨show (-1 : Int) ≤ r by omega, show r ≤ (11 : Int) by omega⟩).u ⟨show (0 : Int) ≤ q by omega, show q ≤ (9999 : Int) by omega⟩, (h4.ui rr (by omega) (by omega)).ui rq (by omega) (by omega), fun k hk => ((h5 k hk).ul (by omega)).ul (by omega)⟩, (((h6.ul (by omega)).ul (by omega)).ur (by omega)).ur (by omega), b, N, n, nm, ev, ed, ls, W, P, ?_⟩
          refine SBk.ul ?_ (by omega)
          obtain ⟨z1, z2, z3, z4, z5, z6, z7, z8, z9, z10, z11, z12⟩ := h7
          refine ⟨(hI_uI_n (by omega)).trans z1, z2.of (fun o k hk => hI_uI_n (by unfold bkc at hk; omega)), z3, z4, z5.of (fun o k hk => (hI_uI_n (by unfold cbc at hk; omega)).trans (hI_uI_n (by unfold cbc at hk; omega))), z6, (hI_uI_n (by omega)).trans z7, (hI_uI_n (by omega)).trans z8, (z9.u (by omega)).u (by omega), z10, y4, fun v hv => ?_⟩
          rcases hI_uI_c (σ := τ) (o := 7) (k := w.toNat) (a := 7) (b := v) rr with ⟨e1, e2, e3⟩ | ⟨e1, e3⟩ <;> rw [e3]
          · exact ⟨by omega, fun z => by omega⟩
          · exact z12 v hv
        exact new.fr f (FrR.rf _) ((h.rk.u (by omega)).u (by omega))
  · rcases y with ⟨_, rfl, rfl⟩ | ⟨y, _⟩ | ⟨y, _⟩ | ⟨y, _⟩ | ⟨y, _⟩
    · rcases y' with ⟨_, rfl, rfl⟩ | ⟨y, _⟩ | ⟨y, _⟩ | ⟨y, _⟩ | ⟨y, _⟩
      · exact ⟨rfl, h.rf hc (by decide)⟩
      all_goals exact absurd y a
    all_goals exact absurd y a
theorem tx_step {c : Nat} {τ σ : am_HS} (h : SR c τ σ) {f g : Nat → Int} (hf : ∀ k, k < 20 → f k = g k % 256 ∧ -128 ≤ g k ∧ g k ≤ 127) (hl : hI τ 0 23 ≤ 580) : ∀ k, k ≤ 20 → SR c (txM τ f k) (txC σ g k)
  | 0, _ => h
  | k + 1, hk => by
    have ih := tx_step h hf hl k (by omega)
    have hl0 := h.2.1.2.2.1.2.2.2.2.2.2.2.1
    obtain ⟨f1, f2, f3⟩ := hf k (by omega)
    have rg : rI (g k) := ⟨by omega, by omega⟩
    have rf : rI (f k) := ⟨by omega, by omega⟩
    have rl : rI (hI τ 0 23 + (k : Int) + 1) := ⟨by omega, by omega⟩
    have el := h.1.ln
    show SR c (uI (uI (txM τ f k) 16 ((hI τ 0 23).toNat + k) (f k)) 0 23 (hI τ 0 23 + k + 1)) (uI (uI (txC σ g k) 9 ((hI σ 4 1).toNat + k) (g k)) 4 1 (hI σ 4 1 + k + 1))
    rw [el]
    have s1 : SR c (uI (txM τ f k) 16 ((hI τ 0 23).toNat + k) (f k)) (uI (txC σ g k) 9 ((hI τ 0 23).toNat + k) (g k)) := by
      obtain ⟨h1, ⟨h2, h3, h4, h5⟩, h6, b, N, n, nm, ev, ed, ls, W, P, h7⟩ := ih
      refine ⟨(h1.ul (fun o' j' q => by unfold SCp at q; omega)).ur (fun o' j' q => by unfold SCp at q; omega), ⟨h2, h3.u ⟨show (0 : Int) ≤ f k by omega, show f k ≤ (255 : Int) by omega⟩, h4.ui rf (by omega) (by omega), fun j hj => (h5 j hj).ul (by omega)⟩, ?_, b, N, n, nm, ev, ed, ls, W, P, (h7.ul (by omega)).ur (by omega)⟩
      obtain ⟨x1, x2, x3, x4, x5⟩ := h6
      refine ⟨fun k hk => ?_, fun j => ?_, fun p' hp => ?_, fun p' hp hp2 => ?_, fun k hk => ?_⟩
      · rw [hI_uI_n (by omega)]; exact x1 k hk
      · by_cases e : j = (hI τ 0 23).toNat + k
        · rw [e, hI_uI_e rf, hI_uI_e rg]
          exact ⟨f1, f2, f3⟩
        · rw [hI_uI_n (by omega), hI_uI_n (by omega)]
          exact x2 j
      · rw [hI_uI_n (by omega)] at hp
        rw [hI_uI_n (by omega), hI_uI_n (by omega)]
        exact x3 p' hp
      · rw [hI_uI_n (by omega)] at hp2
        rw [hI_uI_n (by omega)]
        exact x4 p' hp hp2
      · rw [hI_uI_n (by omega), hI_uI_n (by omega), hI_uI_n (by omega), hI_uI_n (by omega)]; exact x5 k hk
    exact s1.w SCp.c2 rfl rl ⟨rl.1, rl.2⟩ (s1.2.1.2.2.1.ui rl (by omega) (by omega)) (fun k hk => (s1.2.1.2.2.2 k hk).ul (by omega)) (by omega) (by omega) (by omega) (by omega)
theorem sm_text {c : Nat} (hc : c ≤ 10000) {τ σ : am_HS} (h : SR c τ σ) (a b1 c1 dd e : Int) (ra : rI a) (rb : rI b1) (rc : rI c1) (rd : rI dd) (re : rI e) : SimD c τ σ mX7_text mX6_text [vI a, vI b1, vI c1, vI dd, vI e] := by
  obtain ⟨b, hb⟩ := h.fb
  have hg := h.gm hc
  have hl := h.2.1.2.2.1.2.2.2.2.2.2.2.1
  have el := h.1.ln
  refine ⟨_, _, cm_text (by decide) τ h.2.1.1 h.2.1.2.1 hg hl a b1 c1 dd e ra rb rc rd re, cc6_text (by decide) σ hb (h.gc hc) (by rw [el]; exact hl) a b1 c1 dd e ra rb rc rd re, ?_⟩
  intro z s z' s' q q'
  rw [el] at q'
  rcases q with ⟨a, rfl, rfl⟩ | ⟨a, rfl, rfl⟩ <;> rcases q' with ⟨a', rfl, rfl⟩ | ⟨a', rfl, rfl⟩
  · exact ⟨rfl, h.rf hc (by decide)⟩
  · omega
  · omega
  · refine ⟨rfl, tx_step h.up (fun k hk => ?_) a 20 (Nat.le_refl _)⟩
    unfold byS byC sbS
    omega
end
