section
/-! BOTH: range, the call -/
theorem SBk.ls {b N n : Nat} {nm : Nat → Int} {ev : Nat → Den} {ed : Nat → Nat → Prop} {ls : Prop} {W P : Nat} {τ σ : am_HS} (h : SBk b N n nm ev ed ls W P τ σ) (hb : rgM τ) : hI τ 27 N = 0 ↔ hI σ (6 + b) 1 = 0 := by
  have r27 : 0 ≤ hI τ 27 N ∧ hI τ 27 N ≤ 1 := hb 27 N
  have l1 := h.2.1.2.2.2.2.1
  have l2 := h.2.2.2.2.1.2.2.2.2.1.2
  constructor
  · intro z
    by_cases y : hI σ (6 + b) 1 = 0
    · exact y
    · have := l1.mpr (l2.mp y)
      omega
  · intro z
    by_cases y : hI τ 27 N = 1
    · exact absurd z (l2.mpr (l1.mp y))
    · omega
/-- the reference's finds are the class's -/
theorem SR.rgs {c : Nat} {τ σ : am_HS} (h : SR c τ σ) {b N n : Nat} {nm : Nat → Int} {ev : Nat → Den} {ed : Nat → Nat → Prop} {ls : Prop} {W P : Nat} (h7 : SBk b N n nm ev ed ls W P τ σ) {p r : Nat} {L : List Nat} (hL : ∀ w, w ∈ L → w < 10 ∧ opT τ p w) {acc : Acc} (ha : rgAC σ b n r ev (mkP τ p) L acc) : rgS τ (fun tk => rvC n ev (fun w => mtM τ p w (tk w)) r) N L = acc := by
  have hS := h7.2.2.2.2.2.1
  have b4 : ∀ w, 0 ≤ hI τ 4 w ∧ hI τ 4 w ≤ 20 := fun w => h.2.1.2.1 4 w
  have emo : ∀ w, w < 10 → moC_ σ w = moM τ w := fun w hw => by
    unfold moC_ moM
    rw [h.1.mo hw]
  have k0 : mxK τ L 0 = fun _ => -1 := funext fun a => by
    unfold mxK
    rw [if_neg (by rw [List.take_zero]; exact List.not_mem_nil)]
  unfold rgS
  unfold rgAC at ha
  by_cases z : hI τ 27 N = 0
  · rw [if_pos ((h7.ls h.2.1.2.1).mp z)] at ha
    rw [if_pos z, ha, k0]
    have e : (fun w => mtM τ p w (mxK τ L L.length w)) = fun a => if a ∈ L then vN (moC_ σ a : Int) 1 else mkP τ p a := funext fun a => by
      unfold mxK
      rw [List.take_length]
      by_cases y : a ∈ L
      · obtain ⟨y1, y2⟩ := hL a y
        have := mtM_open y2 (moM τ a)
        rw [if_pos y, if_pos y, emo a y1, ← this]
        unfold moM
        rw [Int.toNat_of_nonneg (b4 a).1]
      · rw [if_neg y, if_neg y]
    show accS (accS none (rvC n ev (mkP τ p) r)) (rvC n ev (fun w => mtM τ p w (mxK τ L L.length w)) r) = _
    rw [e]
  · rw [if_neg (fun y => z ((h7.ls h.2.1.2.1).mpr y))] at ha
    rw [if_neg z, k0]
    have hv : ∀ tk : Nat → Int, (∀ w, tk w ≤ 20) → vok (rvC n ev (fun w => mtM τ p w (tk w)) r) := fun tk ht => (rvC_RV hS (fun w => mtM_ok τ p w (ht w))).2.2 r
    have hmo : ∀ w, moM τ w ≤ 20 := fun w => by have := b4 w; unfold moM; omega
    have g := goF_P (mo := moM τ) (f := fun tk => rvC n ev (fun w => mtM τ p w (tk w)) r) hmo hv L (fun _ => -1) none (fun _ => False) (fun _ => by decide) (fun q y => y) (fun _ y => absurd y id)
    have hok2 : ∀ x, (False ∨ ∃ tk', TVx (moM τ) L (fun _ => -1) tk' ∧ x = rvC n ev (fun w => mtM τ p w (tk' w)) r) → vok x := fun x q => q.elim (fun y => y.elim) (fun ⟨tk', ⟨h1, h2⟩, e⟩ => by
      rw [e]
      refine hv tk' (fun w => ?_)
      by_cases y : w ∈ L
      · obtain ⟨k, k1, k2⟩ := h2 w y
        have := hmo w
        omega
      · rw [h1 w y]
        exact (by decide : (-1 : Int) ≤ 20))
    refine AccP_uni g (AccP_congr ha (fun x => ?_)) hok2
    constructor
    · rintro ⟨mk', h1, e⟩
      refine Or.inr ⟨fun a => if a ∈ L then upV (mk' a) else -1, ⟨fun a y => if_neg y, fun a y => ?_⟩, ?_⟩
      · obtain ⟨k, k1, k2⟩ := (h1 a).2 y
        refine ⟨k, by rw [← emo a (hL a y).1]; exact k1, ?_⟩
        show (if a ∈ L then upV (mk' a) else -1) = _
        rw [if_pos y, k2]
        rfl
      · rw [e]
        congr 1
        funext a
        show mk' a = mtM τ p a (if a ∈ L then upV (mk' a) else -1)
        by_cases y : a ∈ L
        · obtain ⟨k, k1, k2⟩ := (h1 a).2 y
          rw [if_pos y, k2]
          exact (mtM_open (hL a y).2 k).symm
        · rw [if_neg y]
          exact (h1 a).1 y
    · rintro (y | ⟨tk', ⟨h1, h2⟩, e⟩)
      · exact y.elim
      · refine ⟨fun w => mtM τ p w (tk' w), fun a => ⟨fun y => ?_, fun y => ?_⟩, e⟩
        · show mtM τ p a (tk' a) = mtM τ p a (-1)
          rw [h1 a y]
        · obtain ⟨k, k1, k2⟩ := h2 a y
          refine ⟨k, by rw [emo a (hL a y).1]; exact k1, ?_⟩
          show mtM τ p a (tk' a) = _
          rw [k2]
          exact mtM_open (hL a y).2 k
theorem sm_range {c : Nat} (hc : c ≤ 10000) {τ σ : am_HS} (h : SR c τ σ) (p r what : Int) : SimD c τ σ mX7_range mX6_range [vI p, vI r, vI what] := by
  obtain ⟨b, N, n, nm, ev, ed, ls, W, P, h7⟩ := h.2.2.2
  obtain ⟨lo, hi, ρ, hR⟩ := h7.2.1.bk h7.1
  obtain ⟨fr, f1, f2, f3, f4⟩ := h7.2.1.em
  have hg := h.gm hc
  have g1 := hg.1
  have g2 := hg.2.1
  have hW : hI τ 0 2 = (W : Int) := h7.2.2.2.2.2.2.2.1
  have hP : hI τ 0 1 = (P : Int) := h7.2.2.2.2.2.2.1
  have hS := h7.2.2.2.2.2.1
  have W10 : W ≤ 10 := by omega
  have P6 : P ≤ 6 := by omega
  refine ⟨_, _, cm_range (by decide) τ h.2.1.1 h.2.1.2.1 hg hR h7.2.1.2.2.1 (rv := fun p tk => rvC n ev (fun w => mtM τ p w (tk w))) (fun p tk _ ht => rvC_RV hS (fun w => mtM_ok τ p w (ht w).2)) fr W f1 f2 hW f3 p r what, cc6_range (by decide) σ (h.cg hc h7) (mk := mkP τ) (h.mko W10 P6) p r what, ?_⟩
  intro z s z' s' y y'
  rw [h.1.P] at y'
  rcases y with ⟨a, rfl, rfl⟩ | ⟨a, a2, rfl, rfl⟩ | ⟨a, a2, L, hL, y⟩ <;> rcases y' with ⟨a', rfl, rfl⟩ | ⟨a', a2', rfl, rfl⟩ | ⟨a', a2', L', hL', y'⟩
  · exact ⟨rfl, h.rf hc (by decide)⟩
  · exact absurd a' a
  · exact absurd a' a
  · exact absurd a a'
  · exact ⟨rfl, h.rf hc (by decide)⟩
  · exact absurd a2' a2
  · exact absurd a a'
  · exact absurd a2 a2'
  have hp6 : p.toNat < 6 := by clear y y'; omega
  have eL : L' = L := by
    refine rgL_uni (P := opWC σ (EdW ed n W (fun w => hI σ (37 + w) 4)) p.toNat r.toNat) hL' (rgL_cl (fun w hw => ?_) hL)
    unfold opW opWC
    have e1 : rch (EM τ N n W fr) 22 r.toNat (12 + w) ↔ rch (EdW ed n W (fun w => hI σ (37 + w) 4)) 22 r.toNat (12 + w) := rch_congr (fun k b => (f4 W τ (fun _ => rfl) (fun _ => rfl) k b).trans (h.edw ed n W10 k b).symm) 22 _ _
    exact and_congr e1 (h.oe hp6 (by omega))
  rw [eL] at y'
  have hLw : ∀ w, w ∈ L → w < 10 ∧ opT τ p.toNat w := fun w hw => by
    have := (rgL_mem hL w).mp hw
    exact ⟨by omega, this.2.2⟩
  have els := h7.ls h.2.1.2.1
  rcases y with ⟨c1, rfl, f⟩ | ⟨c1, c2, c3, rfl, f⟩ | ⟨c1, c2, y⟩ <;> rcases y' with ⟨d1, rfl, rfl⟩ | ⟨d1, d2, d3, rfl, rfl⟩ | ⟨d1, d2, acc, d3, y'⟩
  · exact ⟨rfl, (h.fr f (FrR.rf _) h.rk).up⟩
  · exact absurd c1 d1
  · exact absurd c1 d1
  · exact absurd d1 c1
  · exact ⟨rfl, h.rfr hc (by decide) f (FrR.rf σ) h.rk rfl⟩
  · exact absurd ⟨fun z => c2 (els.mpr z), c3⟩ d2
  · exact absurd d1 c1
  · exact absurd ⟨fun z => d2 (els.mp z), d3⟩ c2
  · rw [h.rgs h7 hLw d3] at y
    unfold rgE at y
    unfold rgEC at y'
    rcases acc with _ | q
    · obtain ⟨rfl, f⟩ := y
      obtain ⟨rfl, u, fu, ku, e⟩ := y'
      exact ⟨rfl, h.rfr hc (by decide) f fu ku e⟩
    · obtain ⟨rfl, f⟩ := y
      obtain ⟨rfl, g, k⟩ := y'
      exact ⟨rfl, (h.fr f g k).up⟩
end
