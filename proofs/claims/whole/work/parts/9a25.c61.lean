section
/-! BOTH: a call of each -/
/-- both answer the same and stand side by side again -/
def SimD (c : Nat) (τ σ : am_HS) (m7 m6 : Nat) (a : List am_V) : Prop := ∃ Q7 Q6 : Int → am_HS → Prop, am_Do lm 784 m7 τ (vR (some 0) :: a) (qI Q7) ∧ am_Do lc 43 m6 σ (vR (some 0) :: a) (qI Q6) ∧ ∀ z s z' s', Q7 z s → Q6 z' s' → z = z' ∧ SR (c + 1) s s'
theorem SR.rk {c : Nat} {τ σ : am_HS} (h : SR c τ σ) : RKc σ := h.2.2.2.elim fun _ ⟨_, _, _, _, _, _, _, _, q⟩ => q.2.2.2.2.2.2.2.2.1
theorem SR.fb {c : Nat} {τ σ : am_HS} (h : SR c τ σ) : ∃ b, σ.2.2 = cH b := h.2.2.2.elim fun b ⟨_, _, _, _, _, _, _, _, q⟩ => ⟨b, q.2.2.1⟩
theorem SR.edw {c : Nat} {τ σ : am_HS} (h : SR c τ σ) (ed : Nat → Nat → Prop) (n : Nat) {W : Nat} (hW : W ≤ 10) (k b : Nat) : EdW ed n W (fun w => hI σ (37 + w) 4) k b ↔ EdW ed n W (fun w => hI τ 7 w) k b := by
  unfold EdW
  have e : ∀ w, w < W → hI σ (37 + w) 4 = hI τ 7 w := fun w hw => h.1.nd (by omega)
  refine or_congr Iff.rfl ⟨fun ⟨w, a, q⟩ => ⟨w, a, ?_⟩, fun ⟨w, a, q⟩ => ⟨w, a, ?_⟩⟩
  · have q2 : k = 12 + w ∧ 0 ≤ hI σ (37 + w) 4 ∧ hI σ (37 + w) 4 < (n : Int) ∧ b = (hI σ (37 + w) 4).toNat := q
    rw [e w a] at q2
    exact q2
  · show k = 12 + w ∧ 0 ≤ hI σ (37 + w) 4 ∧ hI σ (37 + w) 4 < (n : Int) ∧ b = (hI σ (37 + w) 4).toNat
    rw [e w a]
    exact q
theorem peF_cg {mn mn' : Nat → Int} {P p : Nat} (h : ∀ q, q < P → mn q = mn' q) (hP : 0 < P) : ∀ m i : Nat, peF mn P p m i = peF mn' P p m i
  | 0, _ => rfl
  | m + 1, i => by
    show (if mn ((p + (P - (m + 1))) % P) = 0 then peF mn P p m i else if i = 0 then _ else peF mn P p m (i - 1)) = (if mn' ((p + (P - (m + 1))) % P) = 0 then peF mn' P p m i else if i = 0 then _ else peF mn' P p m (i - 1))
    rw [h _ (Nat.mod_lt _ hP), peF_cg h hP m i, peF_cg h hP m (i - 1)]
theorem peS_cg {mn mn' : Nat → Int} {P p : Nat} (h : ∀ q, q < P → mn q = mn' q) (hP : 0 < P) (i : Int) : peS mn P p i = peS mn' P p i := by
  unfold peS
  rw [peF_cg h hP]
theorem sm_count {c : Nat} {τ σ : am_HS} (h : SR c τ σ) (q : Int) (hq : rI q) : SimD c τ σ mX7_count mX6_count [vI q] := by
  obtain ⟨b, N, n, nm, ev, ed, ls, W, P, h7⟩ := h.2.2.2
  refine ⟨_, _, cm_count (by decide) τ h.2.1.1 h7.1 h7.2.1.1 q, cc6_count (by decide) σ h7.2.2.1 h7.2.2.2.1 q hq, ?_⟩
  rintro z s z' s' ⟨rfl, es⟩ ⟨rfl, es'⟩
  rw [es, es']
  refine ⟨?_, h.up⟩
  unfold cntA cntC
  rw [h.1.P, h.1.W, h.1.ln, show hI σ 0 9 = hI τ 0 3 from (h.1 0 3 0 9 (SCp.c1 (by omega))).symm, show hI σ 0 10 = hI τ 0 4 from (h.1 0 4 0 10 (SCp.c1 (by omega))).symm, show hI σ 0 11 = hI τ 0 5 from (h.1 0 5 0 11 (SCp.c1 (by omega))).symm, show hI σ 0 12 = hI τ 0 6 from (h.1 0 6 0 12 (SCp.c1 (by omega))).symm, show hI σ 0 13 = hI τ 0 7 from (h.1 0 7 0 13 (SCp.c1 (by omega))).symm, h7.2.1.2.2.1, h7.2.2.2.2.1.2.2.1]
  by_cases k : 10 < q ∧ q < 18
  · rw [if_pos k, if_pos k, h.1.rf (by omega)]
  · rw [if_neg k, if_neg k]
    have e : (if hI τ 27 N = 0 then (0 : Int) else 1) = if hI σ (6 + b) 1 = 0 then 0 else 1 := by
      have r27 : 0 ≤ hI τ 27 N ∧ hI τ 27 N ≤ 1 := h.2.1.2.1 27 N
      have l1 := h7.2.1.2.2.2.2.1
      have l2 := h7.2.2.2.2.1.2.2.2.2.1.2
      by_cases z : ls
      · have := l1.mpr z
        rw [if_neg (by omega), if_neg (l2.mpr z)]
      · have a1 : hI τ 27 N ≠ 1 := fun q => z (l1.mp q)
        rw [if_pos (by omega), if_pos (by by_cases y : hI σ (6 + b) 1 = 0; exact y; exact absurd (l2.mp y) z)]
    rw [e]
theorem sm_name {c : Nat} (hc : c ≤ 10000) {τ σ : am_HS} (h : SR c τ σ) (r : Int) : SimD c τ σ mX7_name mX6_name [vI r] := by
  obtain ⟨b, N, n, nm, ev, ed, ls, W, P, h7⟩ := h.2.2.2
  obtain ⟨lo, hi, ρ, hR⟩ := h7.2.1.bk h7.1
  have hn : hI σ (6 + b) 0 = (n : Int) := h7.2.2.2.2.1.2.2.1
  have hn12 := h7.2.1.2.1
  refine ⟨_, _, cm_name (by decide) τ h.2.1.1 h.2.1.2.1 (h.gm hc) hR h7.2.1.2.2.1 r, cc6_name (by decide) σ h7.2.2.1 (h.gc hc) h7.2.2.2.1 (by omega) r, ?_⟩
  intro z s z' s' q q'
  rw [hn] at q'
  rcases q with ⟨a, rfl, rfl⟩ | ⟨a, rfl, rfl⟩ <;> rcases q' with ⟨a', rfl, rfl⟩ | ⟨a', rfl, rfl⟩
  · exact ⟨rfl, h.rf hc (by decide)⟩
  · exact absurd a' a
  · exact absurd a a'
  · exact ⟨(h7.2.1.2.2.2.1 r.toNat (by omega)).trans (h7.2.2.2.2.1.2.2.2.1 r.toNat (by omega)).symm, h.up⟩
theorem sm_peer {c : Nat} (hc : c ≤ 10000) {τ σ : am_HS} (h : SR c τ σ) (p w i : Int) : SimD c τ σ mX7_peer mX6_peer [vI p, vI w, vI i] := by
  obtain ⟨b, N, n, nm, ev, ed, ls, W, P, h7⟩ := h.2.2.2
  have hP : hI τ 0 1 = (P : Int) := h7.2.2.2.2.2.2.1
  have hg := h.gm hc
  have g1 := hg.1
  have g2 := hg.2.1
  refine ⟨_, _, cm_peer (by decide) τ h.2.1.1 h.2.1.2.1 hg P hP p w i, cc6_peer (by decide) σ h7.2.2.1 (h.gc hc) h.rgc P (h.1.P.trans hP) p w i, ?_⟩
  intro z s z' s' q q'
  rw [h.1.P, h.1.W] at q'
  rcases q with ⟨a, rfl, rfl⟩ | ⟨a, q⟩ <;> rcases q' with ⟨a', rfl, rfl⟩ | ⟨a', q'⟩
  · exact ⟨rfl, h.rf hc (by decide)⟩
  · exact absurd a' a
  · exact absurd a a'
  · rw [h.1.kd (w := w.toNat) (by omega), h.1.mn (k := 10 * p.toNat + w.toNat) (by omega)] at q'
    rcases q with ⟨c1, rfl, rfl⟩ | ⟨c1, rfl, rfl⟩ <;> rcases q' with ⟨c2, rfl, rfl⟩ | ⟨c2, rfl, rfl⟩
    · exact ⟨rfl, h.rf hc (by decide)⟩
    · exact absurd c2 c1
    · exact absurd c1 c2
    · refine ⟨?_, h.up⟩
      exact peS_cg (fun q hq => (h.1.mn (by omega)).symm) (by omega) i
end
