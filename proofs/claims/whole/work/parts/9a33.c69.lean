section
/-! BOTH: mark, the call -/
theorem sm_mark {c : Nat} (hc : c ≤ 10000) {τ σ : am_HS} (h : SR c τ σ) (p w v : Int) : SimD c τ σ mX7_mark mX6_mark [vI p, vI w, vI v] := by
  obtain ⟨b, N, n, nm, ev, ed, ls, W, P, h7⟩ := h.2.2.2
  have hP : hI τ 0 1 = (P : Int) := h7.2.2.2.2.2.2.1
  have hg := h.gm hc
  have g1 := hg.1
  have g2 := hg.2.1
  have e11 : hI σ 0 11 = hI τ 0 5 := (h.1 0 5 0 11 (SCp.c1 (by omega))).symm
  have g5 := h.2.1.2.2.1.2.2.2.1
  refine ⟨_, _, cm_mark (by decide) τ h.2.1.1 h.2.1.2.1 hg (by omega) h.hmny P hP p w v, cc6_mark (by decide) σ h7.2.2.1 (h.gc hc) h.rgc (by omega) P (h.1.P.trans hP) p w v, ?_⟩
  intro z s z' s' q q'
  rw [h.1.P, h.1.W] at q'
  rcases q with ⟨a, rfl, rfl⟩ | ⟨a, q⟩ <;> rcases q' with ⟨a', rfl, rfl⟩ | ⟨a', q'⟩
  · exact ⟨rfl, h.rf hc (by decide)⟩
  · exact absurd a' a
  · exact absurd a a'
  obtain ⟨pn, hpn⟩ : ∃ pn : Nat, p.toNat = pn := ⟨_, rfl⟩
  obtain ⟨wn, hwn⟩ : ∃ wn : Nat, w.toNat = wn := ⟨_, rfl⟩
  rw [hpn, hwn] at q q'
  have hp6 : pn < 6 := by omega
  have hpP : pn < P := by omega
  have hw10 : wn < 10 := by omega
  have hk : 10 * pn + wn < 60 := by omega
  have hk10 : (10 * pn + wn) % 10 = wn := by omega
  have hwW : (wn : Int) < hI τ 0 2 := by omega
  rw [h.1.kd hw10, h.1.mo hw10] at q'
  have b4 : 0 ≤ hI τ 4 wn ∧ hI τ 4 wn ≤ 20 := h.2.1.2.1 4 wn
  have b3 : 0 ≤ hI τ 3 wn ∧ hI τ 3 wn ≤ 3 := h.2.1.2.1 3 wn
  have b10 : 0 ≤ hI τ 10 (10 * pn + wn) ∧ hI τ 10 (10 * pn + wn) ≤ 100000 := h.2.1.2.1 10 _
  have h2 := h.hmny pn wn hp6 hw10
  have elt : hI τ 10 (10 * pn + wn) ≠ 0 → ltC σ (10 * pn + wn) (hI τ 3 wn) = tmM τ pn wn ∧ 0 ≤ tmM τ pn wn ∧ tmM τ pn wn < 3 := fun m0 => by
    constructor
    · show ltS (hI σ (47 + 4 * (10 * pn + wn)) 2) (hI τ 3 wn) = _
      unfold ltS tmM
      rw [h.1.mn hk, if_neg m0]
    · unfold tmM
      by_cases k : hI τ 3 wn = 2
      · have := h2 k
        rw [if_pos k]
        omega
      · rw [if_neg k]
        omega
  have ecd : tmN τ pn wn ↔ (hI τ 3 wn = 3 ∨ ¬ wtC σ (10 * pn + wn) (hI τ 3 wn)) := by
    unfold tmN wtC
    by_cases m0 : hI τ 10 (10 * pn + wn) = 0
    · have : ltC σ (10 * pn + wn) (hI τ 3 wn) = -1 := by
        show ltS (hI σ (47 + 4 * (10 * pn + wn)) 2) (hI τ 3 wn) = _
        unfold ltS
        rw [h.1.mn hk, if_pos m0]
      exact ⟨fun _ => Or.inr (fun y => by omega), fun _ => Or.inr (Or.inl m0)⟩
    · obtain ⟨y1, y2, y3⟩ := elt m0
      rw [y1, h.1.mk hk (by omega)]
      exact ⟨fun y => y.elim Or.inl (fun y => y.elim (fun y => absurd y m0) (fun y => Or.inr (fun z => by omega))), fun y => y.elim Or.inl (fun y => Or.inr (Or.inr (Int.le_of_not_gt (fun z => y ⟨y2, y3, z⟩))))⟩
  rcases q with ⟨a1, rfl, rfl⟩ | ⟨a1, q⟩ <;> rcases q' with ⟨a1', rfl, rfl⟩ | ⟨a1', q'⟩
  · exact ⟨rfl, h.rf hc (by decide)⟩
  · exact absurd (ecd.mp a1) a1'
  · exact absurd (ecd.mpr a1') a1
  rcases q with ⟨a2, rfl, rfl⟩ | ⟨a2, a3, rfl, rfl⟩ | ⟨a2, a3, rfl, rfl⟩ <;> rcases q' with ⟨a2', rfl, rfl⟩ | ⟨a2', a3', rfl, rfl⟩ | ⟨a2', a3', q'⟩
  · exact ⟨rfl, h.rf hc (by decide)⟩
  · omega
  · omega
  · omega
  · exact ⟨rfl, h.rf hc (by decide)⟩
  · omega
  · omega
  · omega
  have m0 : hI τ 10 (10 * pn + wn) ≠ 0 := fun y => a1 (Or.inr (Or.inl y))
  have k3 : hI τ 3 wn ≠ 3 := fun y => a1 (Or.inl y)
  obtain ⟨y1, y2, y3⟩ := elt m0
  rcases q' with ⟨k1, rfl, rfl⟩ | ⟨k1, rfl, rfl⟩
  · have et : (tmM τ pn wn).toNat = 0 := by unfold tmM; rw [if_neg (by omega)]; rfl
    have hcc : ∀ q, q < P → cgM τ pn wn q = cgC σ pn wn q := fun q hq => by
      have hkq : 10 * q + wn < 60 := by omega
      have ex := h.2.2.1.2.2.2.2
      have t0 : hI σ (47 + 4 * (10 * q + wn) + 1) 0 = hI τ 11 (3 * (10 * q + wn)) := h.1.tk hkq (by decide)
      have t1 : hI σ (47 + 4 * (10 * pn + wn) + 1) 0 = hI τ 11 (3 * (10 * pn + wn)) := h.1.tk hk (by decide)
      have t2 : hI σ (47 + 4 * (10 * q + wn) + 2) 0 = hI τ 13 (3 * (10 * q + wn)) := h.1.mk hkq (by decide)
      have w1 : hI τ 12 (3 * (10 * pn + wn)) = hI σ (47 + 4 * (10 * pn + wn)) 3 := ex _ hk (by rw [hk10]; exact k1) (by omega)
      unfold cgM cgC
      rw [if_pos k1, h.1.mn hkq, t0, t1, t2]
      refine decide_eq_decide.mpr ⟨fun y => ?_, fun y => ?_⟩
      · have w2 : hI τ 12 (3 * (10 * q + wn)) = hI σ (47 + 4 * (10 * q + wn)) 3 := ex _ hkq (by rw [show (10 * q + wn) % 10 = wn by omega]; exact k1) y.1
        rw [← w1, ← w2]
        exact y
      · have w2 : hI τ 12 (3 * (10 * q + wn)) = hI σ (47 + 4 * (10 * q + wn)) 3 := ex _ hkq (by rw [show (10 * q + wn) % 10 = wn by omega]; exact k1) y.1
        rw [w1, w2]
        exact y
    have key := h.up.mkg hw10 ⟨a2, by omega⟩ k1 hwW (cM := cgM τ pn wn) (cC := cgC σ pn wn) (P := P) (by omega) hcc (by omega) (by omega) P (Nat.le_refl _)
    rw [et]
    exact ⟨by rw [key.1], key.2.2.2⟩
  · have hd : ∀ q, cgM τ pn wn q = decide (q = pn) := fun q => if_neg k1
    rw [cntB_one hd, if_pos hpP, mgM_one hd, if_pos hpP, y1, e11]
    refine ⟨rfl, h.up.mk1 (k0 := 10 * pn + wn) (t := (tmM τ pn wn).toNat) hk (by omega) ⟨a2, by omega⟩ (by rw [hk10]; exact k3) (fun y => ?_) (fun y => ?_) (by rw [hk10]; omega) rfl (by omega) (by omega)⟩
    · rw [hk10] at y
      unfold tmM
      rw [if_neg y]
      rfl
    · rw [hk10] at y
      unfold tmM
      rw [if_pos y]
      omega
end
