section
/-! BOTH: what the contracts ask for -/
theorem cntS_cg {f g : Nat → Int} : ∀ n : Nat, (∀ q, q < n → f q = g q) → cntS f n = cntS g n
  | 0, _ => rfl
  | n + 1, h => by
    show cntS f n + (if 0 ≤ f n then 1 else 0) = cntS g n + (if 0 ≤ g n then 1 else 0)
    rw [cntS_cg n (fun q hq => h q (by omega)), h n (by omega)]
theorem sumS_cg {f g : Nat → Int} : ∀ n : Nat, (∀ q, q < n → f q = g q) → sumS f n = sumS g n
  | 0, _ => rfl
  | n + 1, h => by
    show sumS f n + (if 0 < f n then f n else 0) = sumS g n + (if 0 < g n then g n else 0)
    rw [sumS_cg n (fun q hq => h q (by omega)), h n (by omega)]
theorem bestS_cg {f g u v : Nat → Int} : ∀ n : Nat, (∀ q, q < n → f q = g q ∧ u q = v q) → bestS f u n = bestS g v n
  | 0, _ => rfl
  | n + 1, h => by
    show (if 0 ≤ f n then (if f n * u n < bestS f u n then bestS f u n else f n * u n) else bestS f u n) = (if 0 ≤ g n then (if g n * v n < bestS g v n then bestS g v n else g n * v n) else bestS g v n)
    rw [bestS_cg n (fun q hq => h q (by omega)), (h n (by omega)).1, (h n (by omega)).2]
theorem cntS_neg {f : Nat → Int} : ∀ n : Nat, (∀ q, q < n → f q < 0) → cntS f n = 0
  | 0, _ => rfl
  | n + 1, h => by
    show cntS f n + (if 0 ≤ f n then 1 else 0) = 0
    rw [cntS_neg n (fun q hq => h q (by omega)), if_neg (by have := h n (by omega); omega)]
    rfl
theorem lmF_cg {f g : Nat → Int} : ∀ n : Nat, (∀ q, q < n → f q = g q) → lmF f n = lmF g n
  | 0, _ => rfl
  | n + 1, h => by
    rw [lmF_s, lmF_s, lmF_cg n (fun q hq => h q (by omega)), h n (by omega)]
theorem lmF_3 (f : Nat → Int) : lmF f 3 = if 0 ≤ f 2 then 2 else if 0 ≤ f 1 then 1 else if 0 ≤ f 0 then 0 else -1 := rfl
theorem SCe.kd {τ σ : am_HS} (h : SCe τ σ) {w : Nat} (hw : w < 10) : hI σ (37 + w) 0 = hI τ 3 w := (h 3 w (37 + w) 0 (SCp.c4 (by omega))).symm
theorem SCe.mo {τ σ : am_HS} (h : SCe τ σ) {w : Nat} (hw : w < 10) : hI σ (37 + w) 1 = hI τ 4 w := (h 4 w (37 + w) 1 (SCp.c4 (by omega))).symm
theorem SCe.du {τ σ : am_HS} (h : SCe τ σ) {w : Nat} (hw : w < 10) : hI σ (37 + w) 2 = hI τ 5 w := (h 5 w (37 + w) 2 (SCp.c4 (by omega))).symm
theorem SCe.ls {τ σ : am_HS} (h : SCe τ σ) {w : Nat} (hw : w < 10) : hI σ (37 + w) 3 = hI τ 6 w := (h 6 w (37 + w) 3 (SCp.c4 (by omega))).symm
theorem SCe.nd {τ σ : am_HS} (h : SCe τ σ) {w : Nat} (hw : w < 10) : hI σ (37 + w) 4 = hI τ 7 w := (h 7 w (37 + w) 4 (SCp.c4 (by omega))).symm
theorem SCe.nb {τ σ : am_HS} (h : SCe τ σ) {w : Nat} (hw : w < 10) : hI σ (37 + w) 5 = hI τ 8 w := (h 8 w (37 + w) 5 (SCp.c4 (by omega))).symm
theorem SCe.lv {τ σ : am_HS} (h : SCe τ σ) {k : Nat} (hk : k < 60) : hI σ (47 + 4 * k) 0 = hI τ 9 k := (h 9 k (47 + 4 * k) 0 (SCp.c5 hk)).symm
theorem SCe.mn {τ σ : am_HS} (h : SCe τ σ) {k : Nat} (hk : k < 60) : hI σ (47 + 4 * k) 2 = hI τ 10 k := (h 10 k (47 + 4 * k) 2 (SCp.c6 hk)).symm
theorem SCe.ex {τ σ : am_HS} (h : SCe τ σ) {k : Nat} (hk : k < 60) : hI σ (47 + 4 * k) 1 = hI τ 15 k := (h 15 k (47 + 4 * k) 1 (SCp.c7 hk)).symm
theorem SCe.mk {τ σ : am_HS} (h : SCe τ σ) {k t : Nat} (hk : k < 60) (ht : t < 3) : hI σ (47 + 4 * k + 2) t = hI τ 13 (3 * k + t) := (h 13 (3 * k + t) (47 + 4 * k + 2) t (SCp.c8 hk ht)).symm
theorem SCe.tk {τ σ : am_HS} (h : SCe τ σ) {k t : Nat} (hk : k < 60) (ht : t < 3) : hI σ (47 + 4 * k + 1) t = hI τ 11 (3 * k + t) := (h 11 (3 * k + t) (47 + 4 * k + 1) t (SCp.c9 hk ht)).symm
theorem SCe.pe {τ σ : am_HS} (h : SCe τ σ) {k q : Nat} (hk : k < 60) (hq : q < 6) : hI σ (47 + 4 * k + 3) q = hI τ 14 (6 * k + q) := (h 14 (6 * k + q) (47 + 4 * k + 3) q (SCp.c10 hk hq)).symm
theorem SCe.P {τ σ : am_HS} (h : SCe τ σ) : hI σ 0 7 = hI τ 0 1 := (h 0 1 0 7 (SCp.c1 (by omega))).symm
theorem SCe.W {τ σ : am_HS} (h : SCe τ σ) : hI σ 0 8 = hI τ 0 2 := (h 0 2 0 8 (SCp.c1 (by omega))).symm
theorem SCe.rf {τ σ : am_HS} (h : SCe τ σ) {k : Nat} (hk : k < 8) : hI σ 8 k = hI τ 1 k := (h 1 k 8 k (SCp.c3 hk)).symm
theorem SCe.ln {τ σ : am_HS} (h : SCe τ σ) : hI σ 4 1 = hI τ 0 23 := (h 0 23 4 1 SCp.c2).symm
theorem SR.gm {c : Nat} (hc : c ≤ 10000) {τ σ : am_HS} (h : SR c τ σ) : GM τ := ⟨h.2.1.2.2.1.2.2.2.2.2.2.2.2.1, h.2.1.2.2.1.2.2.2.2.2.2.2.2.2, fun k hk => ⟨(h.2.1.2.1 1 k).1, (h.2.1.2.1 1 k).2⟩⟩
theorem SR.gc {c : Nat} (hc : c ≤ 10000) {τ σ : am_HS} (h : SR c τ σ) : GC σ := by
  have g := h.gm hc
  unfold GC
  rw [h.1.P, h.1.W]
  exact ⟨g.1, g.2.1, fun k hk => by rw [h.1.rf hk]; exact g.2.2 k hk⟩
theorem SR.rgc {c : Nat} {τ σ : am_HS} (h : SR c τ σ) : rgC σ := by
  have hb := h.2.1.2.1
  refine ⟨fun k hk => ⟨?_, ?_, ?_, h.2.2.1.1 k hk, fun t ht => ⟨?_, ?_⟩, fun q hq => ?_⟩, fun w hw => ⟨?_, ?_, ?_, ?_, ?_, ?_⟩⟩
  · rw [h.1.lv hk]; exact hb 9 k
  · rw [h.1.ex hk]; exact hb 15 k
  · rw [h.1.mn hk]; exact hb 10 k
  · rw [h.1.tk hk ht]; exact hb 11 _
  · rw [h.1.mk hk ht]; exact hb 13 _
  · rw [h.1.pe hk hq]; exact hb 14 _
  · rw [h.1.kd hw]; exact hb 3 w
  · rw [h.1.mo hw]; exact hb 4 w
  · rw [h.1.du hw]; exact hb 5 w
  · rw [h.1.ls hw]; exact hb 6 w
  · rw [h.1.nd hw]; exact hb 7 w
  · rw [h.1.nb hw]; exact hb 8 w
theorem SR.cg {c : Nat} (hc : c ≤ 10000) {τ σ : am_HS} (h : SR c τ σ) {b N n : Nat} {nm : Nat → Int} {ev : Nat → Den} {ed : Nat → Nat → Prop} {ls : Prop} {W P : Nat} (k : SBk b N n nm ev ed ls W P τ σ) : CG σ b n nm ev ed ls W P := by
  obtain ⟨h1, h2, h3, h4, h5, h6, h7, h8, h9, h10, h11, h12⟩ := k
  exact ⟨h3, h4, h.gc hc, h.rgc, h5, h6, h.1.W.trans h8, h.1.P.trans h7, h9, h10⟩
theorem SR.hmny {c : Nat} {τ σ : am_HS} (h : SR c τ σ) : ∀ a b : Nat, a < 6 → b < 10 → hI τ 3 b = 2 → hI τ 10 (10 * a + b) ≤ 3 := fun a b ha hb h2 => ((h.2.1.2.2.2 (10 * a + b) (by omega)).2.2.2.1 (by rw [show (10 * a + b) % 10 = b by omega]; exact h2)).1
/-- the last mark of a sheet -/
theorem SR.lm {c : Nat} {τ σ : am_HS} (h : SR c τ σ) {p w : Nat} (hp : p < 6) (hw : w < 10) : lmC σ (10 * p + w) = apT τ p w := by
  show lmF _ 3 = _
  rw [lmF_3]
  show (if 0 ≤ hI σ (47 + 4 * (10 * p + w) + 2) 2 then (2 : Int) else if 0 ≤ hI σ (47 + 4 * (10 * p + w) + 2) 1 then 1 else if 0 ≤ hI σ (47 + 4 * (10 * p + w) + 2) 0 then 0 else -1) = _
  rw [h.1.mk (by omega) (by omega), h.1.mk (by omega) (by omega), h.1.mk (by omega) (by omega)]
  rfl
theorem SR.sh {c : Nat} {τ σ : am_HS} (h : SR c τ σ) {p w : Nat} (hp : p < 6) (hw : w < 10) : shC σ (10 * p + w) = cntS (fun q => hI τ 14 (6 * (10 * p + w) + q)) 6 := cntS_cg 6 (fun q hq => h.1.pe (by omega) hq)
/-- marks fill from the first place -/
theorem SR.m0 {c : Nat} {τ σ : am_HS} (h : SR c τ σ) {p w : Nat} (hp : p < 6) (hw : w < 10) (h0 : hI τ 13 (3 * (10 * p + w) + 0) < 0) : hI τ 13 (3 * (10 * p + w) + 1) < 0 ∧ hI τ 13 (3 * (10 * p + w) + 2) < 0 := by
  obtain ⟨h1, h2, h3, h4, h5⟩ := h.2.1.2.2.2 (10 * p + w) (by omega)
  by_cases k : hI τ 3 ((10 * p + w) % 10) = 2
  · obtain ⟨a, b⟩ := h4 k
    have b0 := b 0 (by decide)
    have b1 := b 1 (by decide)
    have b2 := b 2 (by decide)
    constructor
    · by_cases z : 0 ≤ hI τ 13 (3 * (10 * p + w) + 1)
      · have z1 := b1.1 z
        have z2 := b0.2 (by omega)
        omega
      · omega
    · by_cases z : 0 ≤ hI τ 13 (3 * (10 * p + w) + 2)
      · have z1 := b2.1 z
        have z2 := b0.2 (by omega)
        omega
      · omega
  · exact h3 k
theorem SR.ap {c : Nat} {τ σ : am_HS} (h : SR c τ σ) {p w : Nat} (hp : p < 6) (hw : w < 10) : 0 ≤ apT τ p w ↔ 0 ≤ hI τ 13 (3 * (10 * p + w) + 0) := by
  unfold apT
  have := h.m0 hp hw
  repeat' split
  all_goals omega
theorem SR.mkd {c : Nat} {τ σ : am_HS} (h : SR c τ σ) {p w : Nat} (hp : p < 6) (hw : w < 10) : mkM τ p w ↔ (0 ≤ lmC σ (10 * p + w) ∨ 0 < shC σ (10 * p + w)) := by
  rw [h.lm hp hw, h.sh hp hw, h.ap hp hw]
  obtain ⟨h1, h2, _⟩ := h.2.1.2.2.2 (10 * p + w) (by omega)
  rw [show (10 * p + w) % 10 = w by omega] at h1 h2
  show (if hI τ 3 w = 3 then _ else _) ↔ _
  by_cases k : hI τ 3 w = 3
  · rw [if_pos k]
    have := h1 k 0 (by decide)
    exact ⟨Or.inr, fun q => q.elim (fun q => absurd q (by omega)) id⟩
  · rw [if_neg k, cntS_neg 6 (h2 k)]
    exact ⟨Or.inl, fun q => q.elim id (fun q => absurd q (by omega))⟩
/-- the worth of a sheet is the reference's mark -/
theorem SR.wv {c : Nat} {τ σ : am_HS} (h : SR c τ σ) {p w : Nat} (hp : p < 6) (hw : w < 10) : wvC σ (10 * p + w) w = mtM τ p w (-1) := by
  have hk : 10 * p + w < 60 := by omega
  have hmk := h.mkd hp hw
  have hsh := h.sh hp hw
  unfold wvC mtM
  have b15 := h.2.1.2.1 15 (10 * p + w)
  have b15' : 0 ≤ hI τ 15 (10 * p + w) ∧ hI τ 15 (10 * p + w) ≤ 1 := b15
  rw [h.1.ex hk, h.1.kd hw, h.1.ls hw, h.1.du hw, h.1.lv hk, h.1.tk hk (by decide : 0 < 3)]
  by_cases e : hI τ 15 (10 * p + w) = 1
  · rw [if_pos (by omega), if_pos e]
  · rw [if_neg (by omega), if_neg e]
    by_cases k : hI τ 3 w = 3
    · rw [if_pos k, hsh, sumS_cg 6 (fun q hq => h.1.pe hk hq)]
      have e1 : mkM τ p w ↔ 0 < cntS (fun q => hI τ 14 (6 * (10 * p + w) + q)) 6 := by
        show (if hI τ 3 w = 3 then _ else _) ↔ _
        rw [if_pos k]
      have e2 : mvM τ p w = nrm (sumS (fun q => hI τ 14 (6 * (10 * p + w) + q)) 6 * shrS (hI τ 6 w) (dayS (hI τ 11 (3 * (10 * p + w) + 0)) (hI τ 5 w) (hI τ 9 (10 * p + w)))) (100 * cntS (fun q => hI τ 14 (6 * (10 * p + w) + q)) 6) := if_pos k
      have c0 := (cntS_r (fun q => hI τ 14 (6 * (10 * p + w) + q)) 6).1
      by_cases z : cntS (fun q => hI τ 14 (6 * (10 * p + w) + q)) 6 = 0
      · rw [if_pos z, if_neg (fun q => by have := e1.mp q; omega)]
        rfl
      · rw [if_neg z, if_pos (e1.mpr (by omega)), e2, Int.mul_comm 100]
    · rw [if_neg k]
      have e1 : mkM τ p w ↔ 0 ≤ hI τ 13 (3 * (10 * p + w) + 0) := by
        show (if hI τ 3 w = 3 then _ else _) ↔ _
        rw [if_neg k]
      have e2 : mvM τ p w = nrm (bestS (fun t => hI τ 13 (3 * (10 * p + w) + t)) (fun t => shrS (hI τ 6 w) (dayS (hI τ 11 (3 * (10 * p + w) + t)) (hI τ 5 w) (hI τ 9 (10 * p + w)))) 3) 100 := if_neg k
      have eb : bestS (fun t => hI σ (47 + 4 * (10 * p + w) + 2) t) (fun t => shrS (hI τ 6 w) (dayS (hI σ (47 + 4 * (10 * p + w) + 1) t) (hI τ 5 w) (hI τ 9 (10 * p + w)))) 3 = bestS (fun t => hI τ 13 (3 * (10 * p + w) + t)) (fun t => shrS (hI τ 6 w) (dayS (hI τ 11 (3 * (10 * p + w) + t)) (hI τ 5 w) (hI τ 9 (10 * p + w)))) 3 := bestS_cg 3 (fun t ht => ⟨h.1.mk hk ht, by rw [h.1.tk hk ht]⟩)
      rw [eb]
      by_cases z : 0 ≤ hI τ 13 (3 * (10 * p + w) + 0)
      · rw [if_pos (e1.mpr z), e2]
      · have m := h.m0 hp hw (by omega)
        rw [if_neg (fun q => z (e1.mp q))]
        show nrm (if 0 ≤ hI τ 13 (3 * (10 * p + w) + 2) then _ else if 0 ≤ hI τ 13 (3 * (10 * p + w) + 1) then _ else if 0 ≤ hI τ 13 (3 * (10 * p + w) + 0) then _ else 0) 100 = _
        rw [if_neg (by omega), if_neg (by omega), if_neg z]
        rfl
theorem SR.mko {c : Nat} {τ σ : am_HS} (h : SR c τ σ) {W P : Nat} (hW : W ≤ 10) (hP : P ≤ 6) : ∀ p, p < P → mkOK σ W p (mkP τ p) := fun p hp => ⟨mkP_ok τ p, fun w hw => h.wv (by omega) (by omega)⟩
end
