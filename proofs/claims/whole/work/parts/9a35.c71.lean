section
/-! BOTH: hand, the call -/
theorem SR.m03 {c : Nat} {τ σ : am_HS} (h : SR c τ σ) {p w : Nat} (hp : p < 6) (hw : w < 10) (k3 : hI τ 3 w ≠ 3) : (0 ≤ lmC σ (10 * p + w) ∨ 0 < shC σ (10 * p + w)) ↔ 0 ≤ hI τ 13 (3 * (10 * p + w)) := by
  rw [← h.mkd hp hw]
  show (if hI τ 3 w = 3 then _ else _) ↔ _
  rw [if_neg k3]
  exact Iff.rfl
theorem sm_hand {c : Nat} (hc : c ≤ 10000) {τ σ : am_HS} (h : SR c τ σ) (p w : Int) : SimD c τ σ mX7_hand mX6_hand [vI p, vI w] := by
  obtain ⟨b, N, n, nm, ev, ed, ls, W, P, h7⟩ := h.2.2.2
  obtain ⟨lo, hi, ρ, hR⟩ := h7.2.1.bk h7.1
  have hg := h.gm hc
  have g1 := hg.1
  have g2 := hg.2.1
  have hW : hI τ 0 2 = (W : Int) := h7.2.2.2.2.2.2.2.1
  have hP : hI τ 0 1 = (P : Int) := h7.2.2.2.2.2.2.1
  have hS := h7.2.2.2.2.2.1
  have e10 : hI σ 0 10 = hI τ 0 4 := (h.1 0 4 0 10 (SCp.c1 (by omega))).symm
  have g4 := h.2.1.2.2.1.2.2.1
  have g3 := h.2.1.2.2.1.2.2.2.2.2.2.1
  have gm := h.2.1.2.2.1.2.1
  refine ⟨_, _, cm_hand (by decide) τ h.2.1.1 h.2.1.2.1 hg hR (rvl := fun p => rvC n ev (mkP τ p)) (fun p _ => rvC_RV hS (mkP_ok τ p)) h7.hnd (by omega) g3 (fun k => by have := gm k; omega) h.hmny P hP p w, cc6_hand (by decide) σ (h.cg hc h7) (mk := mkP τ) (h.mko (by omega) (by omega)) (fun k hk => by rw [h.1.mn hk]; have := gm k; omega) (by omega) p w, ?_⟩
  intro z s z' s' q q'
  rw [h.1.P, h.1.W] at q'
  rcases q with ⟨a, rfl, rfl⟩ | ⟨a, q⟩ <;> rcases q' with ⟨a', rfl, rfl⟩ | ⟨a', u, fu, ku, q'⟩
  · exact ⟨rfl, h.rf hc (by decide)⟩
  · exact absurd a' a
  · exact absurd a a'
  obtain ⟨pn, hpn⟩ : ∃ pn : Nat, p.toNat = pn := ⟨_, rfl⟩
  obtain ⟨wn, hwn⟩ : ∃ wn : Nat, w.toNat = wn := ⟨_, rfl⟩
  rw [hpn, hwn] at q q'
  have hp6 : pn < 6 := by omega
  have hpP : pn < P := by omega
  have hw10 : wn < 10 := by omega
  have hk : 10 * pn + wn < 60 := by omega
  have hk10 : (10 * pn + wn) % 10 = wn := by omega
  have hwW : (wn : Int) < hI τ 0 2 := by omega
  have hu : SR c τ u := h.fr (FrM.rf τ) fu ku
  have eop := h.op (n := n) hw10 (h7.hnd _ hw10) (rvC n ev (mkP τ pn))
  obtain ⟨opn, hopn⟩ : ∃ opn : Prop, opS τ (rvC n ev (mkP τ pn)) wn = opn := ⟨_, rfl⟩
  obtain ⟨opc, hopc⟩ : ∃ opc : Prop, opC_ σ n (rvC n ev (mkP τ pn)) wn = opc := ⟨_, rfl⟩
  rw [hopn, hopc] at eop
  rw [hopn] at q
  rw [hopc] at q'
  have e09 : hI u 0 9 = hI τ 0 3 := (hu.1 0 3 0 9 (SCp.c1 (by omega))).symm
  have e010 : hI u 0 10 = hI τ 0 4 := (hu.1 0 4 0 10 (SCp.c1 (by omega))).symm
  have b3 : 0 ≤ hI τ 3 wn ∧ hI τ 3 wn ≤ 3 := h.2.1.2.1 3 wn
  have b15 : 0 ≤ hI τ 15 (10 * pn + wn) ∧ hI τ 15 (10 * pn + wn) ≤ 1 := h.2.1.2.1 15 _
  have b10 : 0 ≤ hI τ 10 (10 * pn + wn) ∧ hI τ 10 (10 * pn + wn) ≤ 100000 := h.2.1.2.1 10 _
  have h2 := h.hmny pn wn hp6 hw10
  have eg : ∀ x : Nat, x < P → hI u 1 x = hI τ 2 x := fun x hx => hu.2.2.1.2.2.1 x (by omega)
  have etm : tmC u (10 * pn + wn) (hI τ 3 wn) ↔ ¬ ((hI τ 3 wn = 0 ∨ hI τ 3 wn = 1) ∧ 0 ≤ hI τ 13 (3 * (10 * pn + wn))) ∧ ¬ (hI τ 3 wn = 2 ∧ (hI τ 10 (10 * pn + wn) = 3 ∨ (0 < hI τ 10 (10 * pn + wn) ∧ hI τ 13 (3 * (10 * pn + wn) + (hI τ 10 (10 * pn + wn)).toNat - 1) < 0))) ∧ ¬ (hI τ 3 wn = 3 ∧ 0 < hI τ 10 (10 * pn + wn)) := by
    unfold tmC
    rw [hu.1.mn hk]
    by_cases k2 : hI τ 3 wn = 2
    · have m3 := h2 k2
      rw [if_pos k2]
      unfold wtC
      have el : ltC u (10 * pn + wn) (hI τ 3 wn) = if hI τ 10 (10 * pn + wn) = 0 then -1 else hI τ 10 (10 * pn + wn) - 1 := by
        show ltS (hI u (47 + 4 * (10 * pn + wn)) 2) (hI τ 3 wn) = _
        unfold ltS
        rw [hu.1.mn hk, if_pos k2]
      rw [el]
      by_cases m0 : hI τ 10 (10 * pn + wn) = 0
      · rw [if_pos m0]
        exact ⟨fun _ => ⟨fun y => by omega, fun y => by omega, fun y => by omega⟩, fun _ => ⟨by omega, fun y => by omega⟩⟩
      · rw [if_neg m0, hu.1.mk hk (by omega), show 3 * (10 * pn + wn) + (hI τ 10 (10 * pn + wn) - 1).toNat = 3 * (10 * pn + wn) + (hI τ 10 (10 * pn + wn)).toNat - 1 by omega]
        constructor
        · rintro ⟨y1, y2⟩
          refine ⟨fun y => by omega, fun y => ?_, fun y => by omega⟩
          rcases y.2 with y3 | y3
          · omega
          · exact y2 ⟨by omega, by omega, y3.2⟩
        · rintro ⟨_, y2, _⟩
          refine ⟨?_, fun y => y2 ⟨k2, Or.inr ⟨by omega, y.2.2⟩⟩⟩
          by_cases y3 : hI τ 10 (10 * pn + wn) = 3
          · exact absurd ⟨k2, Or.inl y3⟩ y2
          · omega
    · rw [if_neg k2]
      by_cases k3 : hI τ 3 wn = 3
      · rw [if_pos k3]
        exact ⟨fun y => ⟨fun y => by omega, fun y => by omega, fun y => by omega⟩, fun y => by
          by_cases y3 : 0 < hI τ 10 (10 * pn + wn)
          · exact absurd ⟨k3, y3⟩ y.2.2
          · omega⟩
      · rw [if_neg k3, hu.lm hp6 hw10]
        have ea : 0 ≤ apT τ pn wn ↔ 0 ≤ hI τ 13 (3 * (10 * pn + wn)) := hu.ap hp6 hw10
        exact ⟨fun y => ⟨fun y2 => by have := ea.mpr y2.2; omega, fun y => by omega, fun y => by omega⟩, fun y => Int.lt_of_not_ge (fun y2 => y.1 ⟨by omega, ea.mp y2⟩)⟩
  have eex : (∃ x, x < P ∧ hI u 1 x = hI u 1 pn ∧ (0 ≤ lmC u (10 * x + wn) ∨ 0 < shC u (10 * x + wn))) ↔ hI τ 3 wn = 3 ∧ (∃ x, x < P ∧ hI u 1 x = hI u 1 pn ∧ (0 ≤ lmC u (10 * x + wn) ∨ 0 < shC u (10 * x + wn))) ∨ hI τ 3 wn ≠ 3 ∧ ∃ x, x < P ∧ hI τ 2 x = hI τ 2 pn ∧ 0 ≤ hI τ 13 (3 * (10 * x + wn)) := by
    by_cases k3 : hI τ 3 wn = 3
    · exact ⟨fun y => Or.inl ⟨k3, y⟩, fun y => y.elim (fun y => y.2) (fun y => absurd k3 y.1)⟩
    · refine ⟨fun ⟨x, y1, y2, y3⟩ => Or.inr ⟨k3, x, y1, ?_, (hu.m03 (by omega) hw10 k3).mp y3⟩, fun y => y.elim (fun y => absurd y.1 k3) (fun ⟨_, x, y1, y2, y3⟩ => ⟨x, y1, ?_, (hu.m03 (by omega) hw10 k3).mpr y3⟩)⟩
      · rw [← eg x y1, ← eg pn hpP]; exact y2
      · rw [eg x y1, eg pn hpP]; exact y2
  have eno : hdN τ opn P pn wn ↔ (hI u (47 + 4 * (10 * pn + wn)) 1 ≠ 0 ∨ ¬ opc ∨ ¬ tmC u (10 * pn + wn) (hI τ 3 wn)) ∨ (hI τ 3 wn = 1 ∧ ∃ x, x < P ∧ hI u 1 x = hI u 1 pn ∧ (0 ≤ lmC u (10 * x + wn) ∨ 0 < shC u (10 * x + wn))) := by
    rw [hu.1.ex hk, etm, eex, ← eop]
    unfold hdN
    constructor
    · rintro (y | y | y | y | y | y)
      · exact Or.inl (Or.inl (by omega))
      · exact Or.inl (Or.inr (Or.inl y))
      · exact Or.inl (Or.inr (Or.inr (fun x => x.1 ⟨Or.inl y.1, y.2⟩)))
      · exact Or.inr ⟨y.1, Or.inr ⟨by omega, y.2⟩⟩
      · exact Or.inl (Or.inr (Or.inr (fun x => x.2.1 y)))
      · exact Or.inl (Or.inr (Or.inr (fun x => x.2.2 y)))
    · rintro ((y | y | y) | ⟨y1, y2⟩)
      · exact Or.inl (by omega)
      · exact Or.inr (Or.inl y)
      · by_cases z : hI τ 15 (10 * pn + wn) = 1 ∨ ¬ opn ∨ (hI τ 3 wn = 0 ∧ 0 ≤ hI τ 13 (3 * (10 * pn + wn))) ∨ (hI τ 3 wn = 1 ∧ (∃ q, q < P ∧ hI τ 2 q = hI τ 2 pn ∧ 0 ≤ hI τ 13 (3 * (10 * q + wn)))) ∨ (hI τ 3 wn = 2 ∧ (hI τ 10 (10 * pn + wn) = 3 ∨ (0 < hI τ 10 (10 * pn + wn) ∧ hI τ 13 (3 * (10 * pn + wn) + (hI τ 10 (10 * pn + wn)).toNat - 1) < 0))) ∨ (hI τ 3 wn = 3 ∧ 0 < hI τ 10 (10 * pn + wn))
        · exact z
        · refine absurd ⟨fun x => z ?_, fun x => z (Or.inr (Or.inr (Or.inr (Or.inr (Or.inl x))))), fun x => z (Or.inr (Or.inr (Or.inr (Or.inr (Or.inr x)))))⟩ y
          rcases x.1 with x1 | x1
          · exact Or.inr (Or.inr (Or.inl ⟨x1, x.2⟩))
          · exact Or.inr (Or.inr (Or.inr (Or.inl ⟨x1, pn, hpP, rfl, x.2⟩)))
      · rcases y2 with y2 | y2
        · have := y2.1; omega
        · exact Or.inr (Or.inr (Or.inr (Or.inl ⟨y1, y2.2⟩)))
  unfold haQ at q'
  rw [hu.1.kd hw10] at q'
  rcases q with ⟨a1, rfl, f⟩ | ⟨a1, rfl, f⟩
  · rcases q' with ⟨c1, rfl, rfl⟩ | ⟨c1, ⟨k1, ⟨c2, rfl, rfl⟩ | ⟨c2, rfl, rfl⟩⟩ | ⟨k1, rfl, rfl⟩⟩
    · exact ⟨rfl, h.rfr hc (by decide) f fu ku rfl⟩
    · exact ⟨rfl, h.rfr hc (by decide) f fu ku rfl⟩
    · exact absurd (eno.mp a1) (fun y => y.elim c1 (fun y => c2 y.2))
    · exact absurd (eno.mp a1) (fun y => y.elim c1 (fun y => k1 y.1))
  · have c0 := fun y => a1 (eno.mpr y)
    rcases q' with ⟨c1, rfl, rfl⟩ | ⟨c1, ⟨k1, ⟨c2, rfl, rfl⟩ | ⟨c2, rfl, rfl⟩⟩ | ⟨k1, rfl, rfl⟩⟩
    · exact absurd (Or.inl c1) c0
    · exact absurd (Or.inr ⟨k1, c2⟩) c0
    · clear c0 eno eex etm c1 c2 a1
      have key := hu.up.hag (p := pn) (w := wn) (P := P) hw10 k1 hwW hP hpP (fun k => by have := gm k; omega) (by omega) (by omega) P (Nat.le_refl _)
      have eh : hdS τ P pn wn = ((cntB (sgM τ pn) P : Int), hallM τ wn pn P) := if_pos k1
      rw [eh] at f ⊢
      exact ⟨by rw [key.1], key.2.2.2.fr f (FrR.rf _) key.2.2.2.rk⟩
    · have kt : tmC u (10 * pn + wn) (hI τ 3 wn) := by
        by_cases y : tmC u (10 * pn + wn) (hI τ 3 wn)
        · exact y
        · exact absurd (Or.inr (Or.inr y)) c1
      have kt2 := etm.mp kt
      have eh : hdS τ P pn wn = (1, handM τ pn wn (if hI τ 3 wn = 2 then (hI τ 10 (10 * pn + wn)).toNat else 0) (pn : Int)) := if_neg k1
      obtain ⟨t, ht⟩ : ∃ t : Nat, (if hI τ 3 wn = 2 then (hI τ 10 (10 * pn + wn)).toNat else 0) = t := ⟨_, rfl⟩
      obtain ⟨m, hm⟩ : ∃ m : Int, hI τ 10 (10 * pn + wn) = m := ⟨_, rfl⟩
      have k2m : hI τ 3 wn = 2 → m < 3 ∧ (0 < m → 0 ≤ hI τ 13 (3 * (10 * pn + wn) + (m - 1).toNat)) := fun y => by
        have y1 := h2 y
        rw [hm] at y1 kt2
        constructor
        · by_cases y3 : m = 3
          · exact absurd ⟨y, Or.inl y3⟩ kt2.2.1
          · omega
        · intro y3
          rw [show 3 * (10 * pn + wn) + (m - 1).toNat = 3 * (10 * pn + wn) + m.toNat - 1 by omega]
          exact Int.le_of_not_gt (fun y4 => kt2.2.1 ⟨y, Or.inr ⟨y3, y4⟩⟩)
      have t3 : t < 3 := by
        rw [← ht]
        by_cases y : hI τ 3 wn = 2
        · have := (k2m y).1
          rw [if_pos y]
          omega
        · rw [if_neg y]
          omega
      have hlt : ltS (m + 1) (hI τ 3 wn) = (t : Int) := by
        unfold ltS
        rw [← ht, if_neg (by omega)]
        by_cases y : hI τ 3 wn = 2
        · rw [if_pos y, if_pos y]
          omega
        · rw [if_neg y, if_neg y]
          rfl
      have gmm := gm (10 * pn + wn)
      clear c0 eno eex etm c1 a1 kt kt2
      have step := hu.up.ha1 (k0 := 10 * pn + wn) (t := t) (m := m) (tick := hI τ 0 3) (b := (pn : Int)) (H := hI τ 0 4 + 1) hk t3 hm (by omega) g3 (by omega) (by rw [hk10]; exact k2m) (fun y => by rw [hk10] at y; exact absurd y k1) (by rw [hk10]; omega) rfl (by omega) (by omega)
      rw [eh, ht] at f ⊢
      unfold handM at f
      rw [hm] at f
      rw [adC_e (hu.1.mn hk |>.trans hm) hlt t3, e09, e010]
      exact ⟨rfl, step.fr f (FrR.rf _) step.rk⟩
end
