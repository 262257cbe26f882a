/-! THE REFERENCE: 'range', whole -/
theorem FrM.mk {σ s : am_HS} (f : FrM σ s) (p w : Nat) : mkM s p w = mkM σ p w := by
  unfold mkM
  simp only [f.a (o := 3) (by decide) (by decide), f.a (o := 13) (by decide) (by decide), f.a (o := 14) (by decide) (by decide)]
/-- an open work that the rule hangs on -/
def opW (σ : am_HS) (E : Nat → Nat → Prop) (p r w : Nat) : Prop := rch E 22 r (12 + w) ∧ hI σ 15 (10 * p + w) ≠ 1 ∧ ¬ mkM σ p w
theorem OpL_push {L : List Nat} {u : am_HS} (h : OpL L u) {k : Nat} (hk : k < 100) (hl : L.length < 100) : OpL (L ++ [k]) (uI (uI u 40 L.length (k : Int)) 0 66 (hI (uI u 40 L.length (k : Int)) 0 66 + 1)) := by
  have e : hI (uI u 40 L.length (k : Int)) 0 66 = (L.length : Int) := (hI_uI_n (by omega)).trans h.1
  refine ⟨?_, fun i hi => ?_⟩
  · rw [e, hI_uI_e ⟨by omega, by omega⟩, List.length_append]
    simp
  · rw [hI_uI_n (by omega)]
    rw [List.length_append] at hi
    have hi : i < L.length + 1 := hi
    rcases Nat.lt_or_ge i L.length with h1 | h1
    · rw [hI_uI_n (by omega), h.2 i h1, List.getD_eq_getElem?_getD, List.getD_eq_getElem?_getD, List.getElem?_append_left h1]
    · have h2 : i = L.length := by omega
      subst h2
      rw [hI_uI_e ⟨by omega, by omega⟩, List.getD_eq_getElem?_getD]
      simp

theorem cm_rangeL {d : Nat} (hD : 783 ≤ d) (σ : am_HS) (hf0 : σ.2.2 = mH) (hb : rgM σ) {N n : Nat} {lo hi ρ : Nat → Nat} {ev : Nat → Den} {td : TD} (hR : BK N n lo hi ρ ev td σ) {rv : Nat → (Nat → Int) → Nat → Vl} (hV : ∀ (p : Nat) (tk : Nat → Int), p < 6 → (∀ w, -1 ≤ tk w ∧ tk w ≤ 20) → RV n ev (fun w => mtM σ p w (tk w)) (rv p tk)) {p r : Nat} (hp : p < 6) (hr : r < n) (hrf : ∀ k, k < 8 → 0 ≤ hI σ 1 k ∧ hI σ 1 k ≤ 100000) (hm : hI σ 23 N = (n : Int)) (fr : Nat → Nat) (W : Nat) (hfr : ∀ r, r ≤ n → hI σ 26 (13 * N + r) = (fr r : Int) ∧ fr r ≤ 1600) (hmon : ∀ r, r < n → fr r ≤ fr (r + 1)) (hW : hI σ 0 2 = (W : Int)) (hnd : ∀ r k, r < n → fr r ≤ k → k < fr (r + 1) → hI σ 17 (1600 * N + k) = 1 → (0 ≤ hI σ 18 (1600 * N + k) ∧ hI σ 18 (1600 * N + k) < 12) ∨ (100 ≤ hI σ 18 (1600 * N + k) ∧ hI σ 18 (1600 * N + k) < 110)) (hW10 : W ≤ 10) {what : Int} (hwh : 0 ≤ what ∧ what < 5) (o4 : Option am_V) : am_Go lm d 7 5 1 cX7_range 37 [some (vR (some 0)), some (vI (p : Int)), some (vI (r : Int)), some (vI what), o4] [] σ (qI fun z s => ∃ L, rgL (opW σ (EM σ N n W fr) p r) W L ∧ ((what = 4 ∧ z = (L.length : Int) ∧ FrM σ s) ∨ (what ≠ 4 ∧ hI σ 27 N ≠ 0 ∧ 3 < L.length ∧ z = 2000000003 ∧ FrM (uI σ 1 3 (hI σ 1 3 + 1)) s) ∨ (what ≠ 4 ∧ ¬ (hI σ 27 N ≠ 0 ∧ 3 < L.length) ∧ rgE σ (rgS σ (fun tk => rv p tk r) N L) what z s))) := by
  have hnow : hI σ 0 42 = (N : Int) := hR.1.2.2.1
  have hf := hf0
  have loop : ∀ (G : Nat → Nat), (∀ k, G k < 4194304) → (∀ k, k < 22 → ∀ b, hasB (G k) b ↔ rch (EM σ N n W fr) 22 k b) → ∀ (M k : Nat), k + M = W → ∀ (L : List Nat), rgL (opW σ (EM σ N n W fr) p r) k L → ∀ (u : am_HS), FrM σ u → u.2.2 = mH → OpL L u → hI u 28 r = (G r : Int) → am_Go lm d 7 5 1 cX7_range 53 [some (vR (some 0)), some (vI (p : Int)), some (vI (r : Int)), some (vI what), some (vI (k : Int))] [] u (qI fun z s => ∃ L, rgL (opW σ (EM σ N n W fr) p r) W L ∧ ((what = 4 ∧ z = (L.length : Int) ∧ FrM σ s) ∨ (what ≠ 4 ∧ hI σ 27 N ≠ 0 ∧ 3 < L.length ∧ z = 2000000003 ∧ FrM (uI σ 1 3 (hI σ 1 3 + 1)) s) ∨ (what ≠ 4 ∧ ¬ (hI σ 27 N ≠ 0 ∧ 3 < L.length) ∧ rgE σ (rgS σ (fun tk => rv p tk r) N L) what z s))) := by
    intro G hG hB M
    induction M with
    | zero =>
      intro k hk L hL u fr0 hf hLu h28
      have hkW : k = W := by omega
      subst hkW
      obtain ⟨hL1, hL2⟩ := rgL_b hL
      have hWu : hI u 0 2 = (k : Int) := (fr0.2 0 2 (Or.inr ⟨rfl, Or.inl (by decide)⟩)).trans hW
      refine g_iload dX7_range_53 rfl ?_
      refine g_aload_n dX7_range_55 rfl ?_
      refine g_getI dX7_range_56 tf_7_145 rfl rfl ?_
      rw [hWu]
      refine g_icmp_ge (tgt := 119) dX7_range_59 (by decide) (fun c59 => ?_) (fun c59 => ?_)
      · exact am_Go.mono (cm_rangeT hD σ hb hR hV hp hr L (fun w hw => by have := hL2 w hw; omega) (by omega) hrf hwh u fr0 hf hLu _) (fun _ _ ⟨z, h1, h2⟩ => ⟨z, h1, L, hL, h2⟩)
      · exfalso; omega
    | succ M ih =>
      intro k hk L hL u fr0 hf hLu h28
      obtain ⟨hL1, hL2⟩ := rgL_b hL
      have hr22 : r < 12 := by have := hR.1.1; omega
      have g1 := hG r
      have hbu := fr0.rg hb
      have hBr := hB r (by have := hR.1.1; omega) (12 + k)
      have hWu : hI u 0 2 = (W : Int) := (fr0.2 0 2 (Or.inr ⟨rfl, Or.inl (by decide)⟩)).trans hW
      have h15 : hI u 15 (10 * p + k) = hI σ 15 (10 * p + k) := fr0.a (by decide) (by decide)
      have hmk := fr0.mk p k
      refine g_iload dX7_range_53 rfl ?_
      refine g_aload_n dX7_range_55 rfl ?_
      refine g_getI dX7_range_56 tf_7_145 rfl rfl ?_
      rw [hWu]
      refine g_icmp_ge (tgt := 119) dX7_range_59 (by decide) (fun c59 => ?_) (fun c59 => ?_)
      · exfalso; omega
      · refine g_aload_n dX7_range_62 rfl ?_
        refine g_getA dX7_range_63 tf_7_92 rfl rfl (mrf hf rfl) ?_
        refine g_iload_n dX7_range_66 rfl ?_
        refine g_ialdN (r) dX7_range_67 rfl (by omega) (by omega) ?_
        refine g_bipush dX7_range_68 (by decide) ?_
        refine g_iload dX7_range_70 rfl ?_
        refine g_iadd dX7_range_72 rfl ⟨by omega, by omega⟩ ?_
        rw [h28, show (12 : Int) + (k : Int) = ((12 + k : Nat) : Int) from by omega]
        refine g_ishr dX7_range_73 (bt_shr (by omega) (by omega)) ?_
        refine g_iconst dX7_range_74 ⟨by decide, by decide⟩ ?_
        refine g_iand dX7_range_75 (bt_bit (by omega) (by omega)) ?_
        refine g_if_eq (tgt := 113) dX7_range_76 (by decide) (fun c76 => ?_) (fun c76 => ?_)
        · have hbit : ¬ hasB (G r) (12 + k) := by
            unfold hasB
            intro h
            rw [if_pos h] at c76
            exact absurd c76 (by decide)
          refine g_iinc dX7_range_113 (by decide) rfl ⟨by omega, by omega⟩ rfl rfl ?_
          refine g_goto (tgt := 53) dX7_range_116 (by decide) ?_
          first
            | exact ih (k + 1) (by omega) L (Or.inr ⟨fun h => hbit (hBr.mpr h.1), hL⟩) u fr0 hf hLu h28
            | (refine ih (k + 1) (by omega) L (Or.inr ⟨fun h => ?_, hL⟩) u fr0 hf hLu h28
               rcases h83 with ⟨a, b⟩ | ⟨a, b⟩
               · exact absurd (Decidable.of_not_not c86) (by rw [a]; decide)
               · exact b h.2)
            | (refine ih (k + 1) (by omega) (L ++ [k]) (Or.inl ⟨⟨hBr.mp hbit, ?_⟩, L, hL, rfl⟩) _ ((fr0.tr (FrM_uI (by unfold keepM; omega))).tr (FrM_uI (by unfold keepM; omega))) hf (OpL_push hLu (by omega) (by omega)) ?_
               · rcases h83 with ⟨a, b⟩ | ⟨a, b⟩
                 · exact b
                 · exact absurd a c86
               · rw [hI_uI_n (by omega), hI_uI_n (by omega)]
                 exact h28)
        · have hbit : hasB (G r) (12 + k) := by
            unfold hasB
            by_cases h : (G r).testBit (12 + k) = true
            · exact h
            · rw [if_neg h] at c76; exact absurd rfl c76
          refine g_aload_n dX7_range_79 rfl ?_
          refine g_iload_n dX7_range_80 rfl ?_
          refine g_iload dX7_range_81 rfl ?_
          refine g_callvI dX7_range_83 tm_7_419 rfl ⟨rfl, rfl⟩ rfl (Nat.le_of_ble_eq_true rfl) (cm_isOpenEnded (by omega) u hf hbu p k hp (by omega)) (fun z83 s83 h83 => ?_)
          obtain ⟨h83, e83⟩ := h83
          obtain rfl := e83.symm
          rw [h15, hmk] at h83
          refine g_if_ne (tgt := 92) dX7_range_86 (by decide) (fun c86 => ?_) (fun c86 => ?_)
          · refine g_aload_n dX7_range_92 rfl ?_
            refine g_getA dX7_range_93 tf_7_129 rfl rfl (mrf hf rfl) ?_
            refine g_aload_n dX7_range_96 rfl ?_
            refine g_getI dX7_range_97 tf_7_410 rfl rfl ?_
            refine g_iload dX7_range_100 rfl ?_
            rw [hLu.1]
            refine g_iastN (L.length) dX7_range_102 rfl (by omega) (by omega) ?_
            refine g_aload_n dX7_range_103 rfl ?_
            refine g_dup dX7_range_104 rfl ?_
            refine g_getI dX7_range_105 tf_7_410 rfl rfl ?_
            refine g_iconst dX7_range_108 ⟨by decide, by decide⟩ ?_
            refine g_iadd dX7_range_109 rfl (by rw [hI_uI_n (by omega), hLu.1]; exact ⟨by omega, by omega⟩) ?_
            refine g_putI dX7_range_110 tf_7_410 rfl rfl rfl ?_
            refine g_iinc dX7_range_113 (by decide) rfl ⟨by omega, by omega⟩ rfl rfl ?_
            refine g_goto (tgt := 53) dX7_range_116 (by decide) ?_
            first
              | exact ih (k + 1) (by omega) L (Or.inr ⟨fun h => hbit (hBr.mpr h.1), hL⟩) u fr0 hf hLu h28
              | (refine ih (k + 1) (by omega) L (Or.inr ⟨fun h => ?_, hL⟩) u fr0 hf hLu h28
                 rcases h83 with ⟨a, b⟩ | ⟨a, b⟩
                 · exact absurd (Decidable.of_not_not c86) (by rw [a]; decide)
                 · exact b h.2)
              | (refine ih (k + 1) (by omega) (L ++ [k]) (Or.inl ⟨⟨hBr.mp hbit, ?_⟩, L, hL, rfl⟩) _ ((fr0.tr (FrM_uI (by unfold keepM; omega))).tr (FrM_uI (by unfold keepM; omega))) hf (OpL_push hLu (by omega) (by omega)) ?_
                 · rcases h83 with ⟨a, b⟩ | ⟨a, b⟩
                   · exact b
                   · exact absurd a c86
                 · rw [hI_uI_n (by omega), hI_uI_n (by omega)]
                   exact h28)
          · refine g_goto (tgt := 113) dX7_range_89 (by decide) ?_
            refine g_iinc dX7_range_113 (by decide) rfl ⟨by omega, by omega⟩ rfl rfl ?_
            refine g_goto (tgt := 53) dX7_range_116 (by decide) ?_
            first
              | exact ih (k + 1) (by omega) L (Or.inr ⟨fun h => hbit (hBr.mpr h.1), hL⟩) u fr0 hf hLu h28
              | (refine ih (k + 1) (by omega) L (Or.inr ⟨fun h => ?_, hL⟩) u fr0 hf hLu h28
                 rcases h83 with ⟨a, b⟩ | ⟨a, b⟩
                 · exact absurd (Decidable.of_not_not c86) (by rw [a]; decide)
                 · exact b h.2)
              | (refine ih (k + 1) (by omega) (L ++ [k]) (Or.inl ⟨⟨hBr.mp hbit, ?_⟩, L, hL, rfl⟩) _ ((fr0.tr (FrM_uI (by unfold keepM; omega))).tr (FrM_uI (by unfold keepM; omega))) hf (OpL_push hLu (by omega) (by omega)) ?_
                 · rcases h83 with ⟨a, b⟩ | ⟨a, b⟩
                   · exact b
                   · exact absurd a c86
                 · rw [hI_uI_n (by omega), hI_uI_n (by omega)]
                   exact h28)
  refine g_aload_n dX7_range_37 rfl ?_
  refine g_aload_n dX7_range_38 rfl ?_
  refine g_getI dX7_range_39 tf_7_148 rfl rfl ?_
  rw [hnow]
  refine g_callvV dX7_range_42 tm_7_277 rfl ⟨rfl, rfl⟩ rfl (Nat.le_of_ble_eq_true rfl) (cm_findHangs (by omega) σ hf0 hb N n W fr hR.1.2.1 hm hR.1.1 hfr hmon hW hW10 hnd) (fun s42 h42 => ?_)
  obtain ⟨G, rfl, hG, hB⟩ := h42
  have hf : (hs28 σ G).2.2 = mH := hf0
  refine g_aload_n dX7_range_45 rfl ?_
  refine g_iconst dX7_range_46 ⟨by decide, by decide⟩ ?_
  refine g_putI dX7_range_47 tf_7_410 rfl rfl rfl ?_
  refine g_iconst dX7_range_50 ⟨by decide, by decide⟩ ?_
  refine g_istore dX7_range_51 (by decide) rfl ?_
  refine loop G hG hB W 0 (by omega) [] rfl _ ((FrM_hs σ G).tr (FrM_uI (by unfold keepM; omega))) hf ⟨hI_uI_e ⟨by omega, by omega⟩, fun i hi => absurd hi (Nat.not_lt_zero _)⟩ ?_
  rw [hI_uI_n (by omega)]
  exact hs28_get (by have := hR.1.1; omega) (hG r)
theorem cm_range {D : Nat} (hD : 784 ≤ D) (σ : am_HS) (hf : σ.2.2 = mH) (hb : rgM σ) (hg : GM σ) {N n : Nat} {lo hi ρ : Nat → Nat} {ev : Nat → Den} {td : TD} (hR : BK N n lo hi ρ ev td σ) (hm : hI σ 23 N = (n : Int)) {rv : Nat → (Nat → Int) → Nat → Vl} (hV : ∀ (p : Nat) (tk : Nat → Int), p < 6 → (∀ w, -1 ≤ tk w ∧ tk w ≤ 20) → RV n ev (fun w => mtM σ p w (tk w)) (rv p tk)) (fr : Nat → Nat) (W : Nat) (hfr : ∀ r, r ≤ n → hI σ 26 (13 * N + r) = (fr r : Int) ∧ fr r ≤ 1600) (hmon : ∀ r, r < n → fr r ≤ fr (r + 1)) (hW : hI σ 0 2 = (W : Int)) (hnd : ∀ r k, r < n → fr r ≤ k → k < fr (r + 1) → hI σ 17 (1600 * N + k) = 1 → (0 ≤ hI σ 18 (1600 * N + k) ∧ hI σ 18 (1600 * N + k) < 12) ∨ (100 ≤ hI σ 18 (1600 * N + k) ∧ hI σ 18 (1600 * N + k) < 110)) (p r what : Int) : am_Do lm D mX7_range σ [vR (some 0), vI p, vI r, vI what] (qI fun z s => (¬ (0 ≤ p ∧ p < hI σ 0 1 ∧ 0 ≤ r ∧ r < (n : Int)) ∧ z = 2000000000 + 1 ∧ s = uI σ 1 1 (hI σ 1 1 + 1)) ∨ ((0 ≤ p ∧ p < hI σ 0 1 ∧ 0 ≤ r ∧ r < (n : Int)) ∧ ¬ (0 ≤ what ∧ what < 5) ∧ z = 2000000000 + 2 ∧ s = uI σ 1 2 (hI σ 1 2 + 1)) ∨ ((0 ≤ p ∧ p < hI σ 0 1 ∧ 0 ≤ r ∧ r < (n : Int)) ∧ (0 ≤ what ∧ what < 5) ∧ ∃ L, rgL (opW σ (EM σ N n W fr) p.toNat r.toNat) W L ∧ ((what = 4 ∧ z = (L.length : Int) ∧ FrM σ s) ∨ (what ≠ 4 ∧ hI σ 27 N ≠ 0 ∧ 3 < L.length ∧ z = 2000000003 ∧ FrM (uI σ 1 3 (hI σ 1 3 + 1)) s) ∨ (what ≠ 4 ∧ ¬ (hI σ 27 N ≠ 0 ∧ 3 < L.length) ∧ rgE σ (rgS σ (fun tk => rv p.toNat tk r.toNat) N L) what z s)))) := by
  obtain ⟨hg1, hg2, hrf⟩ := id hg
  obtain ⟨d, rfl⟩ : ∃ d, D = d + 1 := ⟨D - 1, by omega⟩
  refine am_enter rfl rfl (Nat.le_of_ble_eq_true rfl) ?_
  refine g_aload_n dX7_range_0 rfl ?_
  refine g_iload_n dX7_range_1 rfl ?_
  refine g_callvI dX7_range_2 tm_7_151 rfl ⟨rfl, rfl⟩ rfl (Nat.le_of_ble_eq_true rfl) (cm_isPupil (by omega) σ _) (fun z2 s2 h2 => ?_)
  obtain ⟨h2, e2⟩ := h2
  obtain rfl := e2.symm
  refine g_if_eq (tgt := 16) dX7_range_5 (by decide) (fun c5 => ?_) (fun c5 => ?_)
  · refine g_aload_n dX7_range_16 rfl ?_
    refine g_iconst dX7_range_17 ⟨by decide, by decide⟩ ?_
    refine g_callvI dX7_range_18 tm_7_391 rfl ⟨rfl, rfl⟩ rfl (Nat.le_of_ble_eq_true rfl) (cm_refuseFar (by omega) σ hf _ ⟨by omega, by omega⟩ hg.2.2) (fun z18 s18 h18 => ?_)
    obtain ⟨rfl, rfl⟩ := h18
    refine g_ireturn dX7_range_21 (Or.inl rfl) ⟨_, rfl, ?_⟩
    first
      | exact Or.inl ⟨by omega, rfl, rfl⟩
      | exact Or.inr (Or.inl ⟨by omega, by omega, rfl, rfl⟩)
  · refine g_aload_n dX7_range_8 rfl ?_
    refine g_iload_n dX7_range_9 rfl ?_
    refine g_callvI dX7_range_10 tm_7_289 rfl ⟨rfl, rfl⟩ rfl (Nat.le_of_ble_eq_true rfl) (cm_isRule (by omega) σ hf (by have := hR.1.2.1; have := hR.1.2.2.1; omega) _) (fun z10 s10 h10 => ?_)
    obtain ⟨h10, e10⟩ := h10
    obtain rfl := e10.symm
    rw [hR.1.2.2.1, Int.toNat_natCast, hm] at h10
    refine g_if_ne (tgt := 22) dX7_range_13 (by decide) (fun c13 => ?_) (fun c13 => ?_)
    · refine g_iload_n dX7_range_22 rfl ?_
      refine g_iconst dX7_range_23 ⟨by decide, by decide⟩ ?_
      refine g_callsI dX7_range_24 tm_7_141 rfl ⟨Nat.le_of_ble_eq_true rfl, rfl, rfl⟩ (Nat.le_of_ble_eq_true rfl) (cm_isIn (by omega) σ _ _) (fun z24 s24 h24 => ?_)
      obtain ⟨h24, e24⟩ := h24
      obtain rfl := e24.symm
      refine g_if_ne (tgt := 37) dX7_range_27 (by decide) (fun c27 => ?_) (fun c27 => ?_)
      · obtain ⟨p, rfl⟩ : ∃ q : Nat, p = (q : Int) := ⟨p.toNat, by omega⟩
        obtain ⟨r, rfl⟩ : ∃ q : Nat, r = (q : Int) := ⟨r.toNat, by omega⟩
        have hp : p < 6 := by omega
        have hr : r < n := by omega
        exact am_Go.mono (cm_rangeL (by omega) σ hf hb hR hV hp hr hrf hm fr W hfr hmon hW hnd (by omega) (by omega) _) (fun _ _ ⟨z, h1, h2⟩ => ⟨z, h1, Or.inr (Or.inr ⟨by omega, by omega, h2⟩)⟩)
      · refine g_aload_n dX7_range_30 rfl ?_
        refine g_bipush dX7_range_31 (by decide) ?_
        refine g_callvI dX7_range_33 tm_7_391 rfl ⟨rfl, rfl⟩ rfl (Nat.le_of_ble_eq_true rfl) (cm_refuseFar (by omega) σ hf _ ⟨by omega, by omega⟩ hg.2.2) (fun z33 s33 h33 => ?_)
        obtain ⟨rfl, rfl⟩ := h33
        refine g_ireturn dX7_range_36 (Or.inl rfl) ⟨_, rfl, ?_⟩
        first
          | exact Or.inl ⟨by omega, rfl, rfl⟩
          | exact Or.inr (Or.inl ⟨by omega, by omega, rfl, rfl⟩)
    · refine g_aload_n dX7_range_16 rfl ?_
      refine g_iconst dX7_range_17 ⟨by decide, by decide⟩ ?_
      refine g_callvI dX7_range_18 tm_7_391 rfl ⟨rfl, rfl⟩ rfl (Nat.le_of_ble_eq_true rfl) (cm_refuseFar (by omega) σ hf _ ⟨by omega, by omega⟩ hg.2.2) (fun z18 s18 h18 => ?_)
      obtain ⟨rfl, rfl⟩ := h18
      refine g_ireturn dX7_range_21 (Or.inl rfl) ⟨_, rfl, ?_⟩
      first
        | exact Or.inl ⟨by omega, rfl, rfl⟩
        | exact Or.inr (Or.inl ⟨by omega, by omega, rfl, rfl⟩)

