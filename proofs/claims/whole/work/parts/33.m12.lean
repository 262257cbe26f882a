/-! THE REFERENCE: marks tried, 'least' -/
def EvT (σ s : am_HS) : Prop := EvF σ s (fun _ => True) (fun _ => True)
/-- a state in which the marks tk are tried -/
def TS (σ : am_HS) (p : Nat) (tk : Nat → Int) (s : am_HS) : Prop := FrM σ s ∧ s.2.2 = mH ∧ hI s 0 51 = (p : Int) ∧ ∀ w, w < 10 → hI s 32 w = tk w
theorem TS.ev {σ s u : am_HS} {p : Nat} {tk : Nat → Int} (h : TS σ p tk s) (e : EvT s u) : TS σ p tk u :=
  ⟨h.1.tr e.fr, e.1.trans h.2.1, (e.I (by omega) (by omega) (by omega) (by omega)).trans h.2.2.1, fun w hw => (e.I (by omega) (by omega) (by omega) (by omega)).trans (h.2.2.2 w hw)⟩
theorem TS.forget {σ s : am_HS} {p : Nat} {tk : Nat → Int} (h : TS σ p tk s) : TS σ p tk (fillI s 33 12 (-1)) :=
  ⟨h.1.tr (FrM_fill (by omega)), h.2.1, (hI_fill_out (by omega)).trans h.2.2.1, fun w hw => (hI_fill_out (by omega)).trans (h.2.2.2 w hw)⟩
theorem TS.put {σ s : am_HS} {p : Nat} {tk : Nat → Int} (h : TS σ p tk s) {w : Nat} {v : Int} (hv : rI v) : TS σ p (fun a => if a = w then v else tk a) (uI s 32 w v) := by
  refine ⟨h.1.tr (FrM_uI (by unfold keepM; omega)), h.2.1, (hI_uI_n (by omega)).trans h.2.2.1, fun a ha => ?_⟩
  by_cases e : a = w
  · subst e
    rw [hI_uI_e hv]
    simp
  · rw [hI_uI_n (by omega), h.2.2.2 a ha]
    simp [e]
theorem TS.rs {σ s : am_HS} {p : Nat} {tk : Nat → Int} (h : TS σ p tk s) (hb : rgM σ) (hp : p < 6) (ht : ∀ w, -1 ≤ tk w ∧ tk w ≤ 20) : RS0 p (fun w => mtM σ p w (tk w)) s := by
  refine ⟨h.2.1, h.1.rg hb, hp, h.2.2.1, fun w hw => ?_⟩
  rw [h.2.2.2 w hw, h.1.mt]
  exact ⟨ht w, rfl⟩
theorem TS_bg {σ : am_HS} (hf : σ.2.2 = mH) {p : Nat} (hp : p < 6) : TS σ p (fun _ => -1) (bg σ (p : Int)) := by
  refine ⟨FrM_bg σ p, (FrM_bg σ p).1.trans hf, ?_, fun w hw => ?_⟩
  · unfold bg
    rw [hI_fill_out (by omega), hI_fill_out (by omega)]
    exact hI_uI_e ⟨by omega, by omega⟩
  · unfold bg
    rw [hI_fill_out (by omega)]
    exact hI_fill_in ⟨by omega, by omega⟩ ⟨rfl, hw⟩
theorem mem_fill {s : am_HS} {n : Nat} (hn : n ≤ 12) (rvl : Nat → Vl) : Mem n rvl (fillI s 33 12 (-1)) := by
  intro r hr h0
  exfalso
  rw [hI_fill_in ⟨by omega, by omega⟩ ⟨rfl, by omega⟩] at h0
  omega
theorem cm_try {N n : Nat} {lo hi ρ : Nat → Nat} {ev : Nat → Den} {td : TD} {σ : am_HS} {D : Nat} (hD : 768 ≤ D) (hR : BK N n lo hi ρ ev td σ) (hb : rgM σ) {p : Nat} (hp : p < 6) {tk : Nat → Int} (ht : ∀ w, -1 ≤ tk w ∧ tk w ≤ 20) {rvl : Nat → Vl} (hV : RV n ev (fun w => mtM σ p w (tk w)) rvl) {r : Nat} (hr : r < n) (s : am_HS) (hT : TS σ p tk s) : am_Do lm D mX7_values (fillI s 33 12 (-1)) [vR (some 0), vI (r : Int)] (qV fun u => EvT (fillI s 33 12 (-1)) u ∧ TS σ p tk u ∧ vt (rvl r) (hI u 0 48) (hL u 0 49) (hL u 0 50)) := by
  have hR2 := hT.forget.1.bk hR
  refine am_Do.mono (cm_valuesK N n lo hi ρ ev td p _ rvl hV 12 r hr (hR.2 r hr) D _ (by omega) hR2.1 (hT.forget.rs hb hp ht) (mem_fill hR.1.1 rvl)) (fun _ u h => ⟨h.1, ?_⟩)
  obtain ⟨-, e, -, -, hv⟩ := h
  have e2 : EvT (fillI s 33 12 (-1)) u := e.mono (fun _ _ => True.intro) (fun _ _ => True.intro)
  exact ⟨e2, hT.forget.ev e2, hv⟩
/-- the marks that 'least' tries -/
def tk1 (w : Nat) (v : Int) : Nat → Int := fun a => if a = w then v else -1

theorem cm_leastL {d : Nat} (hD : 770 ≤ d) (σ : am_HS) (hf : σ.2.2 = mH) (hb : rgM σ) {N n : Nat} {lo hi ρ : Nat → Nat} {ev : Nat → Den} {td : TD} (hR : BK N n lo hi ρ ev td σ) {rv : Nat → (Nat → Int) → Nat → Vl} (hV : ∀ (p : Nat) (tk : Nat → Int), p < 6 → (∀ w, -1 ≤ tk w ∧ tk w ≤ 20) → RV n ev (fun w => mtM σ p w (tk w)) (rv p tk)) {p w r : Nat} (hp : p < 6) (hw : w < 10) (hr : r < n) {q : Int} (hq : 0 ≤ q ∧ q ≤ 9999) (o5 : Option am_V) : am_Go lm d 7 6 1 cX7_least 73 [some (vR (some 0)), some (vI (p : Int)), some (vI (r : Int)), some (vI (w : Int)), some (vI q), o5] [] σ (qI fun z s => ((∃ v : Nat, (v : Int) ≤ hI σ 4 w ∧ atL (rv p (tk1 w (v : Int)) r) q ∧ (∀ u : Nat, u < v → ¬ atL (rv p (tk1 w (u : Int)) r) q) ∧ z = (v : Int)) ∨ (∀ u : Nat, (u : Int) ≤ hI σ 4 w → ¬ atL (rv p (tk1 w (u : Int)) r) q) ∧ z = -9) ∧ FrM σ s) := by
  obtain ⟨mo, hmo⟩ : ∃ mo : Nat, hI σ 4 w = (mo : Int) := ⟨(hI σ 4 w).toNat, by have : 0 ≤ hI σ 4 w ∧ hI σ 4 w ≤ 20 := hb 4 w; omega⟩
  have hm20 : mo ≤ 20 := by have : 0 ≤ hI σ 4 w ∧ hI σ 4 w ≤ 20 := hb 4 w; omega
  have htk : ∀ v : Int, -1 ≤ v → v ≤ 20 → ∀ a, -1 ≤ tk1 w v a ∧ tk1 w v a ≤ 20 := fun v h1 h2 a => by unfold tk1; split <;> omega
  have loop : ∀ (M v : Nat), v + M = mo + 1 → (∀ u : Nat, u < v → ¬ atL (rv p (tk1 w (u : Int)) r) q) → ∀ (s : am_HS), TS σ p (tk1 w ((v : Int) - 1)) s → am_Go lm d 7 6 1 cX7_least 81 [some (vR (some 0)), some (vI (p : Int)), some (vI (r : Int)), some (vI (w : Int)), some (vI q), some (vI (v : Int))] [] s (qI fun z s => ((∃ v : Nat, (v : Int) ≤ hI σ 4 w ∧ atL (rv p (tk1 w (v : Int)) r) q ∧ (∀ u : Nat, u < v → ¬ atL (rv p (tk1 w (u : Int)) r) q) ∧ z = (v : Int)) ∨ (∀ u : Nat, (u : Int) ≤ hI σ 4 w → ¬ atL (rv p (tk1 w (u : Int)) r) q) ∧ z = -9) ∧ FrM σ s) := by
    intro M
    induction M with
    | zero =>
      intro v hv hno s hT
      have hf := hT.2.1
      refine g_iload dX7_least_81 rfl ?_
      refine g_aload_n dX7_least_83 rfl ?_
      refine g_getA dX7_least_84 tf_7_19 rfl rfl (mrf hf rfl) ?_
      refine g_iload_n dX7_least_87 rfl ?_
      refine g_ialdN (w) dX7_least_88 rfl (by omega) (by omega) ?_
      rw [(hT.1.a (by decide) (by decide)).trans hmo]
      refine g_icmp_gt (tgt := 142) dX7_least_89 (by decide) (fun c89 => ?_) (fun c89 => ?_)
      · refine g_bipush dX7_least_142 (by decide) ?_
        refine g_ireturn dX7_least_144 (Or.inl rfl) ⟨_, rfl, ?_⟩
        exact ⟨Or.inr ⟨fun u hu => hno u (by omega), rfl⟩, hT.1⟩
      · exfalso; omega
    | succ M ih =>
      intro v hv hno s hT
      have hf := hT.2.1
      refine g_iload dX7_least_81 rfl ?_
      refine g_aload_n dX7_least_83 rfl ?_
      refine g_getA dX7_least_84 tf_7_19 rfl rfl (mrf hf rfl) ?_
      refine g_iload_n dX7_least_87 rfl ?_
      refine g_ialdN (w) dX7_least_88 rfl (by omega) (by omega) ?_
      rw [(hT.1.a (by decide) (by decide)).trans hmo]
      refine g_icmp_gt (tgt := 142) dX7_least_89 (by decide) (fun c89 => ?_) (fun c89 => ?_)
      · exfalso; omega
      · refine g_aload_n dX7_least_92 rfl ?_
        refine g_getA dX7_least_93 tf_7_105 rfl rfl (mrf hf rfl) ?_
        refine g_iload_n dX7_least_96 rfl ?_
        refine g_iload dX7_least_97 rfl ?_
        refine g_iastN (w) dX7_least_99 rfl (by omega) (by omega) ?_
        refine g_aload_n dX7_least_100 rfl ?_
        refine g_callvV dX7_least_101 tm_7_330 rfl ⟨rfl, rfl⟩ rfl (Nat.le_of_ble_eq_true rfl) (cm_forgets (by omega) _ hf) (fun s101 h101 => ?_)
        obtain rfl := h101
        have hT2 : TS σ p (tk1 w (v : Int)) (uI s 32 w (v : Int)) := by
          have h := hT.put (w := w) (v := (v : Int)) ⟨by omega, by omega⟩
          have e : (fun a => if a = w then (v : Int) else tk1 w ((v : Int) - 1) a) = tk1 w (v : Int) := by
            funext a
            unfold tk1
            split <;> rfl
          rw [e] at h
          exact h
        refine g_aload_n dX7_least_104 rfl ?_
        refine g_iload_n dX7_least_105 rfl ?_
        refine g_callvV dX7_least_106 tm_7_249 rfl ⟨rfl, rfl⟩ rfl (Nat.le_of_ble_eq_true rfl) (cm_try (by omega) hR hb hp (htk _ (by omega) (by omega)) (hV p _ hp (htk _ (by omega) (by omega))) hr _ hT2) (fun s106 h106 => ?_)
        obtain ⟨e106, hT3, hv1⟩ := h106
        have hf := hT3.2.1
        have hok := (hV p _ hp (htk (v : Int) (by omega) (by omega))).2.2 r
        have hat := vt_at (m := q) hv1 hok
        refine g_aload_n dX7_least_109 rfl ?_
        refine g_getI dX7_least_110 tf_7_252 rfl rfl ?_
        refine g_iconst dX7_least_113 ⟨by decide, by decide⟩ ?_
        refine g_icmp_ne (tgt := 136) dX7_least_114 (by decide) (fun c114 => ?_) (fun c114 => ?_)
        · refine g_iinc dX7_least_136 (by decide) rfl ⟨by omega, by omega⟩ rfl rfl ?_
          refine g_goto (tgt := 81) dX7_least_139 (by decide) ?_
          refine ih (v + 1) (by omega) (fun u hu => ?_) _ (by rw [show ((v + 1 : Nat) : Int) - 1 = (v : Int) by omega]; exact hT3)
          rcases Nat.lt_or_ge u v with h | h
          · exact hno u h
          · have e : u = v := by omega
            subst e
            intro h2
            have := hat.mp h2
            omega
        · refine g_aload_n dX7_least_117 rfl ?_
          refine g_getL dX7_least_118 tf_7_255 rfl rfl ?_
          refine g_iload dX7_least_121 rfl ?_
          refine g_i2l dX7_least_123 ?_
          refine g_aload_n dX7_least_124 rfl ?_
          refine g_getL dX7_least_125 tf_7_259 rfl rfl ?_
          have g1 := vt_rg hv1 hok (by omega)
          have g2 := mul_b2 (M := 9999) (N := 1000000000) (x := q) (y := hL s106 0 50) (by omega) (by omega)
          refine g_lmul dX7_least_128 rfl ⟨by omega, by omega⟩ ?_
          refine g_lc_lt (tgt := 136) dX7_least_129 dX7_least_130 (by decide) (fun c130 => ?_) (fun c130 => ?_)
          · refine g_iinc dX7_least_136 (by decide) rfl ⟨by omega, by omega⟩ rfl rfl ?_
            refine g_goto (tgt := 81) dX7_least_139 (by decide) ?_
            refine ih (v + 1) (by omega) (fun u hu => ?_) _ (by rw [show ((v + 1 : Nat) : Int) - 1 = (v : Int) by omega]; exact hT3)
            rcases Nat.lt_or_ge u v with h | h
            · exact hno u h
            · have e : u = v := by omega
              subst e
              intro h2
              have := hat.mp h2
              omega
          · refine g_iload dX7_least_133 rfl ?_
            refine g_ireturn dX7_least_135 (Or.inl rfl) ⟨_, rfl, ?_⟩
            exact ⟨Or.inl ⟨v, by omega, hat.mpr ⟨by omega, by omega⟩, hno, rfl⟩, hT3.1⟩
  refine g_aload_n dX7_least_73 rfl ?_
  refine g_iload_n dX7_least_74 rfl ?_
  refine g_callvV dX7_least_75 tm_7_246 rfl ⟨rfl, rfl⟩ rfl (Nat.le_of_ble_eq_true rfl) (cm_begins (by omega) _ hf _) (fun s75 h75 => ?_)
  obtain rfl := h75
  refine g_iconst dX7_least_78 ⟨by decide, by decide⟩ ?_
  refine g_istore dX7_least_79 (by decide) rfl ?_
  refine loop (mo + 1) 0 (by omega) (fun u h => absurd h (Nat.not_lt_zero _)) _ ?_
  have h := TS_bg hf hp
  have e : (fun _ => -1 : Nat → Int) = tk1 w (((0 : Nat) : Int) - 1) := by
    funext a
    unfold tk1
    split <;> rfl
  rw [e] at h
  exact h
theorem cm_least {D : Nat} (hD : 771 ≤ D) (σ : am_HS) (hf : σ.2.2 = mH) (hb : rgM σ) (hg : GM σ) {N n : Nat} {lo hi ρ : Nat → Nat} {ev : Nat → Den} {td : TD} (hR : BK N n lo hi ρ ev td σ) (hm : hI σ 23 N = (n : Int)) {rv : Nat → (Nat → Int) → Nat → Vl} (hV : ∀ (p : Nat) (tk : Nat → Int), p < 6 → (∀ w, -1 ≤ tk w ∧ tk w ≤ 20) → RV n ev (fun w => mtM σ p w (tk w)) (rv p tk)) (p r w q : Int) : am_Do lm D mX7_least σ [vR (some 0), vI p, vI r, vI w, vI q] (qI fun z s => (¬ (0 ≤ p ∧ p < hI σ 0 1 ∧ (0 ≤ r ∧ r < (n : Int)) ∧ 0 ≤ w ∧ w < hI σ 0 2) ∧ z = -1 ∧ s = uI σ 1 1 (hI σ 1 1 + 1)) ∨ ((0 ≤ p ∧ p < hI σ 0 1 ∧ (0 ≤ r ∧ r < (n : Int)) ∧ 0 ≤ w ∧ w < hI σ 0 2) ∧ ((¬ (hI σ 15 (10 * p.toNat + w.toNat) ≠ 1 ∧ ¬ mkM σ p.toNat w.toNat) ∧ z = -3 ∧ s = uI σ 1 3 (hI σ 1 3 + 1)) ∨ ((hI σ 15 (10 * p.toNat + w.toNat) ≠ 1 ∧ ¬ mkM σ p.toNat w.toNat) ∧ q < 0 ∧ z = -4 ∧ s = uI σ 1 4 (hI σ 1 4 + 1)) ∨ ((hI σ 15 (10 * p.toNat + w.toNat) ≠ 1 ∧ ¬ mkM σ p.toNat w.toNat) ∧ 9999 < q ∧ z = -6 ∧ s = uI σ 1 6 (hI σ 1 6 + 1)) ∨ ((hI σ 15 (10 * p.toNat + w.toNat) ≠ 1 ∧ ¬ mkM σ p.toNat w.toNat) ∧ 0 ≤ q ∧ q ≤ 9999 ∧ ((∃ v : Nat, (v : Int) ≤ hI σ 4 w.toNat ∧ atL (rv p.toNat (tk1 w.toNat (v : Int)) r.toNat) q ∧ (∀ u : Nat, u < v → ¬ atL (rv p.toNat (tk1 w.toNat (u : Int)) r.toNat) q) ∧ z = (v : Int)) ∨ (∀ u : Nat, (u : Int) ≤ hI σ 4 w.toNat → ¬ atL (rv p.toNat (tk1 w.toNat (u : Int)) r.toNat) q) ∧ z = -9) ∧ FrM σ s)))) := by
  obtain ⟨hg1, hg2, hrf⟩ := id hg
  obtain ⟨d, rfl⟩ : ∃ d, D = d + 1 := ⟨D - 1, by omega⟩
  refine am_enter rfl rfl (Nat.le_of_ble_eq_true rfl) ?_
  refine g_aload_n dX7_least_0 rfl ?_
  refine g_iload_n dX7_least_1 rfl ?_
  refine g_callvI dX7_least_2 tm_7_151 rfl ⟨rfl, rfl⟩ rfl (Nat.le_of_ble_eq_true rfl) (cm_isPupil (by omega) σ _) (fun z2 s2 h2 => ?_)
  obtain ⟨h2, e2⟩ := h2
  obtain rfl := e2.symm
  refine g_if_eq (tgt := 24) dX7_least_5 (by decide) (fun c5 => ?_) (fun c5 => ?_)
  · refine g_aload_n dX7_least_24 rfl ?_
    refine g_iconst dX7_least_25 ⟨by decide, by decide⟩ ?_
    refine g_callvI dX7_least_26 tm_7_133 rfl ⟨rfl, rfl⟩ rfl (Nat.le_of_ble_eq_true rfl) (cm_refuse (by omega) σ hf _ ⟨by omega, by omega⟩ hg.2.2) (fun z26 s26 h26 => ?_)
    obtain ⟨rfl, rfl⟩ := h26
    refine g_ireturn dX7_least_29 (Or.inl rfl) ⟨_, rfl, ?_⟩
    first
      | exact Or.inl ⟨by omega, rfl, rfl⟩
      | (first
         | exact Or.inr ⟨by omega, Or.inl ⟨by rcases h33 with ⟨a, b⟩ | ⟨a, b⟩; exact absurd a (by omega); exact b, rfl, rfl⟩⟩
         | exact Or.inr ⟨by omega, Or.inr (Or.inl ⟨by rcases h33 with ⟨a, b⟩ | ⟨a, b⟩; exact b; exact absurd a (by omega), by omega, rfl, rfl⟩)⟩
         | exact Or.inr ⟨by omega, Or.inr (Or.inr (Or.inl ⟨by rcases h33 with ⟨a, b⟩ | ⟨a, b⟩; exact b; exact absurd a (by omega), by omega, rfl, rfl⟩))⟩)
  · refine g_aload_n dX7_least_8 rfl ?_
    refine g_iload_n dX7_least_9 rfl ?_
    refine g_callvI dX7_least_10 tm_7_289 rfl ⟨rfl, rfl⟩ rfl (Nat.le_of_ble_eq_true rfl) (cm_isRule (by omega) σ hf (by have := hR.1.2.1; have := hR.1.2.2.1; omega) _) (fun z10 s10 h10 => ?_)
    obtain ⟨h10, e10⟩ := h10
    obtain rfl := e10.symm
    rw [hR.1.2.2.1, Int.toNat_natCast, hm] at h10
    refine g_if_eq (tgt := 24) dX7_least_13 (by decide) (fun c13 => ?_) (fun c13 => ?_)
    · refine g_aload_n dX7_least_24 rfl ?_
      refine g_iconst dX7_least_25 ⟨by decide, by decide⟩ ?_
      refine g_callvI dX7_least_26 tm_7_133 rfl ⟨rfl, rfl⟩ rfl (Nat.le_of_ble_eq_true rfl) (cm_refuse (by omega) σ hf _ ⟨by omega, by omega⟩ hg.2.2) (fun z26 s26 h26 => ?_)
      obtain ⟨rfl, rfl⟩ := h26
      refine g_ireturn dX7_least_29 (Or.inl rfl) ⟨_, rfl, ?_⟩
      first
        | exact Or.inl ⟨by omega, rfl, rfl⟩
        | (first
           | exact Or.inr ⟨by omega, Or.inl ⟨by rcases h33 with ⟨a, b⟩ | ⟨a, b⟩; exact absurd a (by omega); exact b, rfl, rfl⟩⟩
           | exact Or.inr ⟨by omega, Or.inr (Or.inl ⟨by rcases h33 with ⟨a, b⟩ | ⟨a, b⟩; exact b; exact absurd a (by omega), by omega, rfl, rfl⟩)⟩
           | exact Or.inr ⟨by omega, Or.inr (Or.inr (Or.inl ⟨by rcases h33 with ⟨a, b⟩ | ⟨a, b⟩; exact b; exact absurd a (by omega), by omega, rfl, rfl⟩))⟩)
    · refine g_aload_n dX7_least_16 rfl ?_
      refine g_iload_n dX7_least_17 rfl ?_
      refine g_callvI dX7_least_18 tm_7_156 rfl ⟨rfl, rfl⟩ rfl (Nat.le_of_ble_eq_true rfl) (cm_isWork (by omega) σ _) (fun z18 s18 h18 => ?_)
      obtain ⟨h18, e18⟩ := h18
      obtain rfl := e18.symm
      refine g_if_ne (tgt := 30) dX7_least_21 (by decide) (fun c21 => ?_) (fun c21 => ?_)
      · obtain ⟨p, rfl⟩ : ∃ q : Nat, p = (q : Int) := ⟨p.toNat, by omega⟩
        obtain ⟨r, rfl⟩ : ∃ q : Nat, r = (q : Int) := ⟨r.toNat, by omega⟩
        obtain ⟨w, rfl⟩ : ∃ q : Nat, w = (q : Int) := ⟨w.toNat, by omega⟩
        have hp : p < 6 := by omega
        have hr : r < n := by omega
        have hw : w < 10 := by omega
        refine g_aload_n dX7_least_30 rfl ?_
        refine g_iload_n dX7_least_31 rfl ?_
        refine g_iload_n dX7_least_32 rfl ?_
        refine g_callvI dX7_least_33 tm_7_419 rfl ⟨rfl, rfl⟩ rfl (Nat.le_of_ble_eq_true rfl) (cm_isOpenEnded (by omega) σ hf hb p w hp hw) (fun z33 s33 h33 => ?_)
        obtain ⟨h33, e33⟩ := h33
        obtain rfl := e33.symm
        refine g_if_ne (tgt := 46) dX7_least_36 (by decide) (fun c36 => ?_) (fun c36 => ?_)
        · refine g_iload dX7_least_46 rfl ?_
          refine g_if_ge (tgt := 58) dX7_least_48 (by decide) (fun c48 => ?_) (fun c48 => ?_)
          · refine g_iload dX7_least_58 rfl ?_
            refine g_sipush dX7_least_60 (by decide) ?_
            refine g_icmp_le (tgt := 73) dX7_least_63 (by decide) (fun c63 => ?_) (fun c63 => ?_)
            · have hoe : hI σ 15 (10 * p + w) ≠ 1 ∧ ¬ mkM σ p w := by
                rcases h33 with ⟨a, b⟩ | ⟨a, b⟩
                · exact b
                · exact absurd a (by omega)
              have hin : (0 ≤ (p : Int) ∧ (p : Int) < hI σ 0 1 ∧ (0 ≤ (r : Int) ∧ (r : Int) < (n : Int)) ∧ 0 ≤ (w : Int) ∧ (w : Int) < hI σ 0 2) := by clear h33; omega
              have hq2 : 0 ≤ q ∧ q ≤ 9999 := by clear h33; omega
              refine am_Go.mono (Q := qI fun z s => ((∃ v : Nat, (v : Int) ≤ hI σ 4 w ∧ atL (rv p (tk1 w (v : Int)) r) q ∧ (∀ u : Nat, u < v → ¬ atL (rv p (tk1 w (u : Int)) r) q) ∧ z = (v : Int)) ∨ (∀ u : Nat, (u : Int) ≤ hI σ 4 w → ¬ atL (rv p (tk1 w (u : Int)) r) q) ∧ z = -9) ∧ FrM σ s) (cm_leastL (by omega) σ hf hb hR hV hp hw hr hq2 _) (fun z s h => ?_)
              obtain ⟨z, rfl, h1, h2⟩ := h
              exact ⟨z, rfl, Or.inr ⟨hin, Or.inr (Or.inr (Or.inr ⟨hoe, hq2.1, hq2.2, h1, h2⟩))⟩⟩
            · refine g_aload_n dX7_least_66 rfl ?_
              refine g_bipush dX7_least_67 (by decide) ?_
              refine g_callvI dX7_least_69 tm_7_133 rfl ⟨rfl, rfl⟩ rfl (Nat.le_of_ble_eq_true rfl) (cm_refuse (by omega) σ hf _ ⟨by omega, by omega⟩ hg.2.2) (fun z69 s69 h69 => ?_)
              obtain ⟨rfl, rfl⟩ := h69
              refine g_ireturn dX7_least_72 (Or.inl rfl) ⟨_, rfl, ?_⟩
              first
                | exact Or.inl ⟨by omega, rfl, rfl⟩
                | (first
                   | exact Or.inr ⟨by omega, Or.inl ⟨by rcases h33 with ⟨a, b⟩ | ⟨a, b⟩; exact absurd a (by omega); exact b, rfl, rfl⟩⟩
                   | exact Or.inr ⟨by omega, Or.inr (Or.inl ⟨by rcases h33 with ⟨a, b⟩ | ⟨a, b⟩; exact b; exact absurd a (by omega), by omega, rfl, rfl⟩)⟩
                   | exact Or.inr ⟨by omega, Or.inr (Or.inr (Or.inl ⟨by rcases h33 with ⟨a, b⟩ | ⟨a, b⟩; exact b; exact absurd a (by omega), by omega, rfl, rfl⟩))⟩)
          · refine g_aload_n dX7_least_51 rfl ?_
            refine g_bipush dX7_least_52 (by decide) ?_
            refine g_callvI dX7_least_54 tm_7_133 rfl ⟨rfl, rfl⟩ rfl (Nat.le_of_ble_eq_true rfl) (cm_refuse (by omega) σ hf _ ⟨by omega, by omega⟩ hg.2.2) (fun z54 s54 h54 => ?_)
            obtain ⟨rfl, rfl⟩ := h54
            refine g_ireturn dX7_least_57 (Or.inl rfl) ⟨_, rfl, ?_⟩
            first
              | exact Or.inl ⟨by omega, rfl, rfl⟩
              | (first
                 | exact Or.inr ⟨by omega, Or.inl ⟨by rcases h33 with ⟨a, b⟩ | ⟨a, b⟩; exact absurd a (by omega); exact b, rfl, rfl⟩⟩
                 | exact Or.inr ⟨by omega, Or.inr (Or.inl ⟨by rcases h33 with ⟨a, b⟩ | ⟨a, b⟩; exact b; exact absurd a (by omega), by omega, rfl, rfl⟩)⟩
                 | exact Or.inr ⟨by omega, Or.inr (Or.inr (Or.inl ⟨by rcases h33 with ⟨a, b⟩ | ⟨a, b⟩; exact b; exact absurd a (by omega), by omega, rfl, rfl⟩))⟩)
        · refine g_aload_n dX7_least_39 rfl ?_
          refine g_bipush dX7_least_40 (by decide) ?_
          refine g_callvI dX7_least_42 tm_7_133 rfl ⟨rfl, rfl⟩ rfl (Nat.le_of_ble_eq_true rfl) (cm_refuse (by omega) σ hf _ ⟨by omega, by omega⟩ hg.2.2) (fun z42 s42 h42 => ?_)
          obtain ⟨rfl, rfl⟩ := h42
          refine g_ireturn dX7_least_45 (Or.inl rfl) ⟨_, rfl, ?_⟩
          first
            | exact Or.inl ⟨by omega, rfl, rfl⟩
            | (first
               | exact Or.inr ⟨by omega, Or.inl ⟨by rcases h33 with ⟨a, b⟩ | ⟨a, b⟩; exact absurd a (by omega); exact b, rfl, rfl⟩⟩
               | exact Or.inr ⟨by omega, Or.inr (Or.inl ⟨by rcases h33 with ⟨a, b⟩ | ⟨a, b⟩; exact b; exact absurd a (by omega), by omega, rfl, rfl⟩)⟩
               | exact Or.inr ⟨by omega, Or.inr (Or.inr (Or.inl ⟨by rcases h33 with ⟨a, b⟩ | ⟨a, b⟩; exact b; exact absurd a (by omega), by omega, rfl, rfl⟩))⟩)
      · refine g_aload_n dX7_least_24 rfl ?_
        refine g_iconst dX7_least_25 ⟨by decide, by decide⟩ ?_
        refine g_callvI dX7_least_26 tm_7_133 rfl ⟨rfl, rfl⟩ rfl (Nat.le_of_ble_eq_true rfl) (cm_refuse (by omega) σ hf _ ⟨by omega, by omega⟩ hg.2.2) (fun z26 s26 h26 => ?_)
        obtain ⟨rfl, rfl⟩ := h26
        refine g_ireturn dX7_least_29 (Or.inl rfl) ⟨_, rfl, ?_⟩
        first
          | exact Or.inl ⟨by omega, rfl, rfl⟩
          | (first
             | exact Or.inr ⟨by omega, Or.inl ⟨by rcases h33 with ⟨a, b⟩ | ⟨a, b⟩; exact absurd a (by omega); exact b, rfl, rfl⟩⟩
             | exact Or.inr ⟨by omega, Or.inr (Or.inl ⟨by rcases h33 with ⟨a, b⟩ | ⟨a, b⟩; exact b; exact absurd a (by omega), by omega, rfl, rfl⟩)⟩
             | exact Or.inr ⟨by omega, Or.inr (Or.inr (Or.inl ⟨by rcases h33 with ⟨a, b⟩ | ⟨a, b⟩; exact b; exact absurd a (by omega), by omega, rfl, rfl⟩))⟩)

