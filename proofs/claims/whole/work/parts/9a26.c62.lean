section
/-! BOTH: what asks the rules -/
theorem MB.em {N n : Nat} {nm : Nat → Int} {ev : Nat → Den} {ed : Nat → Nat → Prop} {ls : Prop} {σ : am_HS} (h : MB N n nm ev ed ls σ) : ∃ fr : Nat → Nat, (∀ r, r ≤ n → hI σ 26 (13 * N + r) = (fr r : Int) ∧ fr r ≤ 1600) ∧ (∀ r, r < n → fr r ≤ fr (r + 1)) ∧ (∀ r k, r < n → fr r ≤ k → k < fr (r + 1) → hI σ 17 (1600 * N + k) = 1 → (0 ≤ hI σ 18 (1600 * N + k) ∧ hI σ 18 (1600 * N + k) < 12) ∨ (100 ≤ hI σ 18 (1600 * N + k) ∧ hI σ 18 (1600 * N + k) < 110)) ∧ ∀ (W : Nat) (s : am_HS), (∀ j, hI s 17 j = hI σ 17 j) → (∀ j, hI s 18 j = hI σ 18 j) → ∀ k b, EM s N n W fr k b ↔ EdW ed n W (fun w => hI s 7 w) k b := by
  obtain ⟨h1, h2, h3, h4, h5, cf, ρ, h6, h7, h8, h9, h10, h11, h12⟩ := h
  refine ⟨cf, fun r hr => ⟨h8 r hr, h7 r hr⟩, fun r hr => Nat.le_of_lt (h6 r hr), h11, fun W s e1 e2 k b => ?_⟩
  unfold EM EdW
  refine or_congr ⟨fun q => ⟨q.1, (h12 k b q.1).mp ?_⟩, fun q => ⟨q.1, ?_⟩⟩ Iff.rfl
  · have := q.2
    unfold EdM at this ⊢
    simp only [e1, e2] at this
    exact this
  · have := (h12 k b q.1).mpr q.2
    unfold EdM at this ⊢
    simp only [e1, e2]
    exact this
theorem SBk.hnd {b N n : Nat} {nm : Nat → Int} {ev : Nat → Den} {ed : Nat → Nat → Prop} {ls : Prop} {W P : Nat} {τ σ : am_HS} (h : SBk b N n nm ev ed ls W P τ σ) : ∀ w, w < 10 → hI τ 7 w < (n : Int) := fun w hw => (h.2.2.2.2.2.2.2.2.2.2.2 w hw).1
theorem sm_hangs {c : Nat} (hc : c ≤ 10000) {τ σ : am_HS} (h : SR c τ σ) (r w : Int) : SimD c τ σ mX7_hangs mX6_hangs [vI r, vI w] := by
  obtain ⟨b, N, n, nm, ev, ed, ls, W, P, h7⟩ := h.2.2.2
  obtain ⟨lo, hi, ρ, hR⟩ := h7.2.1.bk h7.1
  obtain ⟨fr, f1, f2, f3, f4⟩ := h7.2.1.em
  have hg := h.gm hc
  have g2 := hg.2.1
  have hW : hI τ 0 2 = (W : Int) := h7.2.2.2.2.2.2.2.1
  refine ⟨_, _, cm_hangs (by decide) τ h.2.1.1 h.2.1.2.1 hg hR h7.2.1.2.2.1 fr W f1 f2 hW f3 r w, cc6_hangs (by decide) σ (h.cg hc h7) r w, ?_⟩
  intro z s z' s' q q'
  rw [h.1.W] at q'
  rcases q with ⟨a, rfl, rfl⟩ | ⟨a, q, f⟩ <;> rcases q' with ⟨a', rfl, rfl⟩ | ⟨a', q', rfl⟩
  · exact ⟨rfl, h.rf hc (by decide)⟩
  · exact absurd a' a
  · exact absurd a a'
  · have e : rch (EM τ N n W fr) 22 r.toNat (12 + w.toNat) ↔ rch (EdW ed n W (fun w => hI s' (37 + w) 4)) 22 r.toNat (12 + w.toNat) := rch_congr (fun k b => (f4 W τ (fun _ => rfl) (fun _ => rfl) k b).trans (h.edw ed n (by omega) k b).symm) 22 _ _
    refine ⟨?_, (h.fr f (FrR.rf _) h.rk).up⟩
    rcases q with ⟨rfl, x⟩ | ⟨rfl, x⟩ <;> rcases q' with ⟨rfl, y⟩ | ⟨rfl, y⟩
    · rfl
    · exact absurd (e.mp x) y
    · exact absurd (e.mpr y) x
    · rfl
theorem SR.op {c : Nat} {τ σ : am_HS} (h : SR c τ σ) {n w : Nat} (hw : w < 10) (hnd : hI τ 7 w < (n : Int)) (rv : Nat → Vl) : opS τ rv w ↔ opC_ σ n rv w := by
  unfold opS opC_
  rw [h.1.nd hw, h.1.nb hw]
  exact or_congr ⟨fun q => by omega, fun q => by omega⟩ Iff.rfl
theorem sm_opens {c : Nat} (hc : c ≤ 10000) {τ σ : am_HS} (h : SR c τ σ) (p w : Int) : SimD c τ σ mX7_opens mX6_opens [vI p, vI w] := by
  obtain ⟨b, N, n, nm, ev, ed, ls, W, P, h7⟩ := h.2.2.2
  obtain ⟨lo, hi, ρ, hR⟩ := h7.2.1.bk h7.1
  have hg := h.gm hc
  have g1 := hg.1
  have g2 := hg.2.1
  have hW : hI τ 0 2 = (W : Int) := h7.2.2.2.2.2.2.2.1
  have hP : hI τ 0 1 = (P : Int) := h7.2.2.2.2.2.2.1
  have hS := h7.2.2.2.2.2.1
  refine ⟨_, _, cm_opens (by decide) τ h.2.1.1 h.2.1.2.1 hg hR (rvl := fun p => rvC n ev (mkP τ p)) (fun p _ => rvC_RV hS (mkP_ok τ p)) h7.hnd p w, cc6_opens (by decide) σ (h.cg hc h7) (mk := mkP τ) (h.mko (by omega) (by omega)) p w, ?_⟩
  intro z s z' s' q q'
  rw [h.1.P, h.1.W] at q'
  rcases q with ⟨a, rfl, rfl⟩ | ⟨a, q, f⟩ <;> rcases q' with ⟨a', rfl, rfl⟩ | ⟨a', q', g, k⟩
  · exact ⟨rfl, h.rf hc (by decide)⟩
  · exact absurd a' a
  · exact absurd a a'
  · have e := h.op (n := n) (w := w.toNat) (by omega) (h7.hnd _ (by omega)) (rvC n ev (mkP τ p.toNat))
    refine ⟨?_, (h.fr f g k).up⟩
    rcases q with ⟨rfl, x⟩ | ⟨rfl, x⟩ <;> rcases q' with ⟨rfl, y⟩ | ⟨rfl, y⟩
    · rfl
    · exact absurd (e.mp x) y
    · exact absurd (e.mpr y) x
    · rfl
theorem sm_value {c : Nat} (hc : c ≤ 10000) {τ σ : am_HS} (h : SR c τ σ) (p r what : Int) : SimD c τ σ mX7_value mX6_value [vI p, vI r, vI what] := by
  obtain ⟨b, N, n, nm, ev, ed, ls, W, P, h7⟩ := h.2.2.2
  obtain ⟨lo, hi, ρ, hR⟩ := h7.2.1.bk h7.1
  have hg := h.gm hc
  have g1 := hg.1
  have g2 := hg.2.1
  have hW : hI τ 0 2 = (W : Int) := h7.2.2.2.2.2.2.2.1
  have hP : hI τ 0 1 = (P : Int) := h7.2.2.2.2.2.2.1
  have hS := h7.2.2.2.2.2.1
  refine ⟨_, _, cm_value (by decide) τ h.2.1.1 h.2.1.2.1 hg hR h7.2.1.2.2.1 (rvl := fun p => rvC n ev (mkP τ p)) (fun p _ => rvC_RV hS (mkP_ok τ p)) p r what, cc6_value (by decide) σ (h.cg hc h7) (mk := mkP τ) (h.mko (by omega) (by omega)) p r what, ?_⟩
  intro z s z' s' q q'
  rw [h.1.P] at q'
  rcases q with ⟨a, rfl, rfl⟩ | ⟨a, a2, rfl, rfl⟩ | ⟨a, a2, rfl, f⟩ <;> rcases q' with ⟨a', rfl, rfl⟩ | ⟨a', a2', rfl, rfl⟩ | ⟨a', a2', rfl, g, k⟩
  · exact ⟨rfl, h.rf hc (by decide)⟩
  · exact absurd a' a
  · exact absurd a' a
  · exact absurd a a'
  · exact ⟨rfl, h.rf hc (by decide)⟩
  · exact absurd a2' a2
  · exact absurd a a'
  · exact absurd a2 a2'
  · exact ⟨rfl, (h.fr f g k).up⟩
theorem SR.mo {c : Nat} {τ σ : am_HS} (h : SR c τ σ) {p w : Nat} (hp : p < 6) (hw : w < 10) {q : Int} (hq : 0 ≤ q ∧ q < 5) : moA τ p w q = moC σ (10 * p + w) w q := by
  have hk : 10 * p + w < 60 := by omega
  have b15 : 0 ≤ hI τ 15 (10 * p + w) ∧ hI τ 15 (10 * p + w) ≤ 1 := h.2.1.2.1 15 _
  have b10 : 0 ≤ hI τ 10 (10 * p + w) ∧ hI τ 10 (10 * p + w) ≤ 100000 := h.2.1.2.1 10 _
  have h2 := h.hmny p w hp hw
  unfold moA moC
  rw [h.1.mn hk, h.1.ex hk, h.1.kd hw, h.1.du hw, h.1.lv hk, h.wv hp hw]
  by_cases q4 : q = 4
  · rw [if_pos q4, if_pos q4]
  rw [if_neg q4, if_neg q4]
  by_cases q3 : q = 3
  · rw [if_pos q3, if_pos q3]
    by_cases m0 : hI τ 10 (10 * p + w) = 0
    · rw [if_pos m0, if_pos m0]
    · rw [if_neg m0, if_neg m0]
      have e : ltC σ (10 * p + w) (hI τ 3 w) = tmM τ p w := by
        show ltS (hI σ (47 + 4 * (10 * p + w)) 2) (hI τ 3 w) = _
        unfold ltS tmM
        rw [h.1.mn hk, if_neg m0]
      have t3 : 0 ≤ tmM τ p w ∧ tmM τ p w < 3 := by
        unfold tmM
        by_cases k : hI τ 3 w = 2
        · have := h2 k
          rw [if_pos k]
          omega
        · rw [if_neg k]
          omega
      rw [e]
      unfold tkC
      rw [if_pos t3, h.1.tk hk (by omega)]
  rw [if_neg q3, if_neg q3]
  have hm := h.mkd hp hw
  by_cases q2 : q = 2
  · rw [if_pos q2, if_pos q2]
    by_cases e : hI τ 15 (10 * p + w) = 1
    · rw [if_pos e, if_pos (by omega)]
    · rw [if_neg e, if_neg (show ¬ hI τ 15 (10 * p + w) ≠ 0 by omega)]
      by_cases m : mkM τ p w
      · rw [if_pos m, if_pos (hm.mp m)]
      · rw [if_neg m, if_neg (fun z => m (hm.mpr z))]
  rw [if_neg q2, if_neg q2]
  unfold mtM
  by_cases e : hI τ 15 (10 * p + w) = 1
  · rw [if_pos (Or.inl e), if_pos e]
    rfl
  · rw [if_neg e]
    by_cases m : mkM τ p w
    · rw [if_neg (fun z => z.elim e (fun z => z m)), if_pos m]
      obtain ⟨y, hy⟩ := mvM_num h.2.1.2.1 m
      rw [hy]
      rfl
    · rw [if_pos (Or.inr m), if_neg m]
      have : q = 0 ∨ q = 1 := by omega
      rcases this with rfl | rfl
      · rfl
      · rfl
theorem sm_markOf {c : Nat} (hc : c ≤ 10000) {τ σ : am_HS} (h : SR c τ σ) (p w q : Int) : SimD c τ σ mX7_markOf mX6_markOf [vI p, vI w, vI q] := by
  obtain ⟨b, N, n, nm, ev, ed, ls, W, P, h7⟩ := h.2.2.2
  have hg := h.gm hc
  have g1 := hg.1
  have g2 := hg.2.1
  refine ⟨_, _, cm_markOf (by decide) τ h.2.1.1 h.2.1.2.1 hg p w q h.hmny, cc6_markOf (by decide) σ h7.2.2.1 (h.gc hc) h.rgc p w q, ?_⟩
  intro z s z' s' y y'
  rw [h.1.P, h.1.W] at y'
  rcases y with ⟨a, rfl, rfl⟩ | ⟨a, a2, rfl, rfl⟩ | ⟨a, a2, rfl, f⟩ <;> rcases y' with ⟨a', rfl, rfl⟩ | ⟨a', a2', rfl, rfl⟩ | ⟨a', a2', rfl, rfl⟩
  · exact ⟨rfl, h.rf hc (by decide)⟩
  · exact absurd a' a
  · exact absurd a' a
  · exact absurd a a'
  · exact ⟨rfl, h.rf hc (by decide)⟩
  · exact absurd a2' a2
  · exact absurd a a'
  · exact absurd a2 a2'
  · exact ⟨h.mo (by omega) (by omega) a2, (h.fr f (FrR.rf _) h.rk).up⟩
end
