/-! THE CLASS: what is reckoned anew only; the least mark -/
theorem settle_keep {n B g sc r bl : Nat} {nm : Nat → Int} {ev : Nat → Den} {ed : Nat → Nat → Prop} {ls : Prop} {Xs X X2 : Nat → Vl} {σ s : am_HS} (hC : CB B n nm ev ed ls σ) (hS : BkS n ev ed) (hr : r < n) (hXs : ∀ q, q < n → undK n ed r q → Xs (10 + q) = ev q Xs) (hXX : ∀ a, X a = Xs a ∨ (a < 10 ∧ hasB sc a)) (hI0 : SeI n B ev ed g sc X σ n X2 s) (hbl : ∀ a, hasB bl a ↔ blN n ed r a) (hg : g = bl ||| 2 ^ (10 + r)) : ∀ q, q < n → undK n ed r q → X2 (10 + q) = ev q X2 := by
  intro q hq hK
  have hn := hC.2.1
  by_cases hk : reck n ed g sc q
  · obtain ⟨i, i1, i2⟩ := hC.2.2.2.2.2.2.2.1 q hq
    exact hI0.2.2.2 i q i1 hq i2 hk
  · have hno : ∀ q', q' < n → ¬ reck n ed g sc q' → X2 (10 + q') = Xs (10 + q') := fun q' _ h => by
      rw [hI0.2.2.1 (10 + q') (fun r' _ e => by rw [show r' = q' by omega]; exact h)]
      exact (hXX (10 + q')).elim id (fun z => absurd z.1 (by omega))
    rw [hno q hq hk, hXs q hq hK]
    have hgq : hasB g (10 + q) := (goal_K hbl hg q).mpr hK
    refine hS.2.1 q hq _ _ (fun a ha => ?_)
    rcases ha with ⟨a1, a2⟩ | ⟨r', r1, r2, r3⟩
    · rw [hI0.mk a1]
      rcases hXX a with h | ⟨_, h⟩
      · exact h.symm
      · exact absurd (show reck n ed g sc q from ⟨hgq, Or.inr ⟨a, (blN_step hn hq a).mpr (Or.inl ⟨by omega, by rw [phB_w a1]; exact a2⟩), h⟩⟩) hk
    · rw [r3]
      refine (hno r' r1 (fun z => hk ⟨hgq, ?_⟩)).symm
      rcases z.2 with h | ⟨a, h1, h2⟩
      · exact Or.inl h
      · exact Or.inr ⟨a, (blN_step hn hq a).mpr (Or.inr ⟨r', r1, r2, h1⟩), h2⟩
/-- a rule's value by the marks that are laid out -/
theorem val_K {n r W : Nat} {ev : Nat → Den} {ed : Nat → Nat → Prop} {X mk : Nat → Vl} (hn : n ≤ 12) (hS : BkS n ev ed) (hWk : ∀ r a, r < n → ed r (12 + a) → a < W) (hr : r < n) (hmv : ∀ w, vok (mk w)) (hX : ∀ q, q < n → undK n ed r q → X (10 + q) = ev q X) (hm : ∀ a, a < W → a < 10 → X a = mk a) : X (10 + r) = rvC n ev mk r :=
  set_val hS hmv (K := undK n ed r) (fun q q' a b c d => undK_cl hn hr a b c d) hX (fun q a hq _ ha he => hm a (hWk q a hq he) ha) r hr (Or.inl rfl)
theorem vN_ok {v : Int} (h : -1000000 ≤ v ∧ v ≤ 1000000) : vok (vN v 1) := ⟨by show -1000000000 ≤ v; omega, by show v ≤ 1000000000; omega, by show (1 : Int) ≤ 1; decide, by show (1 : Int) ≤ 1000000000; decide, by show Int.gcd v 1 = 1; exact Int.gcd_one_right v⟩
/-- a mark is tried: the state -/
theorem XV.try {X : Nat → Vl} {s : am_HS} {w v c : Nat} (h : XV X s) (hv : v ≤ 1000) : XV (upX X w (vN (v : Int) 1)) (uI (uL s 13 w ((v : Int) * 4294967296 + 1)) 5 6 ((c : Nat) : Int)) := by
  have := XV.up (w := w) (v := vN (v : Int) 1) h (vN_ok ⟨by omega, by omega⟩)
  exact this.congr (fun a ha => rfl)
/-- the search for the least mark: v were tried -/
def LmI (n r w : Nat) (ev : Nat → Den) (ed : Nat → Nat → Prop) (X1 : Nat → Vl) (s0 : am_HS) (sc : Nat) (X : Nat → Vl) (s : am_HS) : Prop := FrR s0 s ∧ (∃ c : Nat, hI s 5 6 = (c : Int) ∧ c < 4194304) ∧ XV X s ∧ hI s 16 w = hI s0 16 w ∧ (∀ a, a < 10 → a ≠ w → X a = X1 a) ∧ (sc = 4194303 ∨ (sc = 2 ^ w ∧ ∀ q, q < n → undK n ed r q → X (10 + q) = ev q X))
theorem cc2_leastMark {D : Nat} (hD : 10 ≤ D) {s0 : am_HS} {b : Nat} (hf : s0.2.2 = cH b) {B n : Nat} {nm : Nat → Int} {ev : Nat → Den} {ed : Nat → Nat → Prop} {ls : Prop} (hC : CB B n nm ev ed ls s0) (hS : BkS n ev ed) {W : Nat} (hWk : ∀ r a, r < n → ed r (12 + a) → a < W) {X1 mk : Nat → Vl} (hmv : ∀ w, vok (mk w)) (hX1 : XV X1 s0) (hmk : ∀ a, a < W → X1 a = mk a) (hcc : ∃ c : Nat, hI s0 5 6 = (c : Int) ∧ c < 4194304) (r w M : Nat) (hr : r < n) (hw : w < 10) (hM : hI s0 16 w = (M : Int)) (hM2 : M ≤ 20) (q : Int) (hq : 0 ≤ q ∧ q ≤ 9999) : am_Do lc D mX2_leastMark s0 [vR (some 5), vR (some (6 + B)), vI (r : Int), vI (w : Int), vI q] (qI fun z s => ((∃ v : Nat, v ≤ M ∧ atL (rvC n ev (upX mk w (vN (v : Int) 1)) r) q ∧ (∀ u : Nat, u < v → ¬ atL (rvC n ev (upX mk w (vN (u : Int) 1)) r) q) ∧ z = (v : Int)) ∨ (∀ u : Nat, u ≤ M → ¬ atL (rvC n ev (upX mk w (vN (u : Int) 1)) r) q) ∧ z = -1) ∧ FrR s0 s ∧ RKc s) := by
  obtain ⟨d, rfl⟩ : ∃ d, D = d + 1 := ⟨D - 1, by omega⟩
  refine am_enter rfl rfl (Nat.le_of_ble_eq_true rfl) ?_
  have hB : B < 2 := hC.1
  have hn12 : n ≤ 12 := hC.2.1
  have hpw : 2 ^ w < 4194304 := pow_lt22 (by omega)
  have lp : ∀ (m v sc : Nat) (X : Nat → Vl) (s : am_HS), v + m = M + 1 → LmI n r w ev ed X1 s0 sc X s → (∀ u : Nat, u < v → ¬ atL (rvC n ev (upX mk w (vN (u : Int) 1)) r) q) → am_Go lc d 2 8 1 cX2_leastMark 32 [some (vR (some 5)), some (vR (some (6 + B))), some (vI (r : Int)), some (vI (w : Int)), some (vI q), some (vI (M : Int)), some (vI (sc : Int)), some (vI (v : Int))] [] s (qI fun z s => ((∃ v : Nat, v ≤ M ∧ atL (rvC n ev (upX mk w (vN (v : Int) 1)) r) q ∧ (∀ u : Nat, u < v → ¬ atL (rvC n ev (upX mk w (vN (u : Int) 1)) r) q) ∧ z = (v : Int)) ∨ (∀ u : Nat, u ≤ M → ¬ atL (rvC n ev (upX mk w (vN (u : Int) 1)) r) q) ∧ z = -1) ∧ FrR s0 s ∧ RKc s) := by
    intro m
    induction m with
    | zero =>
      intro v sc X s hv hI0 hno
      refine g_iload dX2_leastMark_32 rfl ?_
      refine g_iload dX2_leastMark_34 rfl ?_
      refine g_icmp_gt (tgt := 85) dX2_leastMark_36 (by decide) (fun c36 => ?_) (fun c36 => ?_)
      · refine g_iconst dX2_leastMark_85 ⟨by decide, by decide⟩ ?_
        refine g_ireturn dX2_leastMark_86 (Or.inl rfl) ⟨_, rfl, ?_⟩
        exact ⟨Or.inr ⟨fun u hu => hno u (by omega), rfl⟩, hI0.1, ⟨X, hI0.2.2.1⟩, hI0.2.1⟩
      · exfalso; omega
    | succ m ih =>
      intro v sc X s hv hI0 hno
      obtain ⟨f1, ⟨c, c1, c2⟩, f3, f4, f5, f6⟩ := hI0
      have hfs : s.2.2 = cH b := f1.1.trans hf
      have hsc : sc < 4194304 := by
        rcases f6 with h | ⟨h, _⟩
        · omega
        · rw [h]; exact hpw
      refine g_iload dX2_leastMark_32 rfl ?_
      refine g_iload dX2_leastMark_34 rfl ?_
      refine g_icmp_gt (tgt := 85) dX2_leastMark_36 (by decide) (fun c36 => ?_) (fun c36 => ?_)
      · exfalso; omega
      · refine g_aload_n dX2_leastMark_39 rfl ?_
        refine g_iload_n dX2_leastMark_40 rfl ?_
        refine g_iload dX2_leastMark_41 rfl ?_
        refine g_callvV dX2_leastMark_43 tm_2_156 rfl ⟨rfl, rfl⟩ rfl (Nat.le_of_ble_eq_true rfl) (cc2_tryMark (by omega) s hfs w v hw (by omega) c c1 c2) (fun s43 h43 => ?_)
        subst h43
        have hXt := XV.try (w := w) (c := c ||| 2 ^ w) f3 (show v ≤ 1000 by omega)
        have ft : FrR s0 (uI (uL s 13 w ((v : Int) * 4294967296 + 1)) 5 6 ((c ||| 2 ^ w : Nat) : Int)) := (f1.uL _ _ _).uI (by omega)
        have hft : (uI (uL s 13 w ((v : Int) * 4294967296 + 1)) 5 6 ((c ||| 2 ^ w : Nat) : Int)).2.2 = cH b := hfs
        have hCt := ft.cb hC
        have hNt := hCt.2.2.1
        obtain ⟨bl, l1, l2, l3⟩ := hCt.2.2.2.2.2.2.1.1 r hr
        have hgl : (bl ||| 2 ^ (10 + r)) < 4194304 := or_lt22 l2 (pow_lt22 (by omega))
        refine g_aload_n dX2_leastMark_46 rfl ?_
        refine g_aload_n dX2_leastMark_47 rfl ?_
        refine g_aload_n dX2_leastMark_48 rfl ?_
        refine g_iload_n dX2_leastMark_49 rfl ?_
        refine g_callvI dX2_leastMark_50 tm_2_142 rfl ⟨rfl, rfl⟩ (lc_b hB) (Nat.le_of_ble_eq_true rfl) (cc0_goal (by omega) (uI (uL s 13 w ((v : Int) * 4294967296 + 1)) 5 6 ((c ||| 2 ^ w : Nat) : Int)) hft hB n hNt hn12 r hr bl l1 l2) (fun z50 s50 h50 => ?_)
        obtain ⟨h50, e50⟩ := h50
        obtain rfl := e50.symm
        subst h50
        refine g_iload dX2_leastMark_53 rfl ?_
        refine g_callvV dX2_leastMark_55 tm_2_145 rfl ⟨rfl, rfl⟩ rfl (Nat.le_of_ble_eq_true rfl) (cc2_settle (by omega) hft hCt hS hXt (bl ||| 2 ^ (10 + r)) sc hgl hsc) (fun s55 h55 => ?_)
        obtain ⟨X2, hI2⟩ := h55
        have hcl : ∀ q, q < n → undK n ed r q → X2 (10 + q) = ev q X2 := by
          rcases f6 with h | ⟨h, h2⟩
          · subst h
            exact settle_K hCt hI2 l3 rfl
          · refine settle_keep hCt hS hr h2 (fun a => ?_) hI2 l3 rfl
            by_cases e : a = w
            · exact Or.inr ⟨by omega, by rw [h, pow_bit]; exact e⟩
            · exact Or.inl (upX_n e)
        have hval : X2 (10 + r) = rvC n ev (upX mk w (vN (v : Int) 1)) r := by
          refine val_K hn12 hS hWk hr (fun a => ?_) hcl (fun a ha ha10 => ?_)
          · by_cases e : a = w
            · rw [e, upX_e]; exact vN_ok ⟨by omega, by omega⟩
            · rw [upX_n e]; exact hmv a
          · rw [hI2.mk ha10]
            by_cases e : a = w
            · rw [e, upX_e, upX_e]
            · rw [upX_n e, upX_n e, f5 a ha10 e]
              exact hmk a ha
        obtain ⟨hvk, hvl⟩ := hI2.2.1 (10 + r) (by omega)
        rw [hval] at hvk hvl
        have hf2 : s55.2.2 = cH b := hI2.1.2.1.trans hft
        have fr2 : FrR s0 s55 := ft.tr hI2.1.fr
        have c56 : hI s55 5 6 = ((c ||| 2 ^ w : Nat) : Int) := by
          rw [hI2.1.hI, hI_uI_e ⟨by omega, by have := or_lt22 c2 hpw; omega⟩]
        have hc22 := or_lt22 c2 hpw
        refine g_iconst dX2_leastMark_58 ⟨by decide, by decide⟩ ?_
        refine g_iload_n dX2_leastMark_59 rfl ?_
        refine g_ishl dX2_leastMark_60 (bt_shl1 (by omega)) ?_
        refine g_istore dX2_leastMark_61 (by decide) rfl ?_
        refine g_aload_n dX2_leastMark_63 rfl ?_
        refine g_iload_n dX2_leastMark_64 rfl ?_
        refine g_callvL dX2_leastMark_65 tm_2_149 rfl ⟨rfl, rfl⟩ rfl (Nat.le_of_ble_eq_true rfl) (cc2_ofRule (by omega) s55 hf2 r (by omega)) (fun z65 s65 h65 => ?_)
        obtain ⟨h65, e65⟩ := h65
        obtain rfl := e65.symm
        rw [hvl] at h65
        refine g_iload dX2_leastMark_68 rfl ?_
        refine g_callsI dX2_leastMark_70 tm_2_169 rfl ⟨Nat.le_of_ble_eq_true rfl, rfl, rfl⟩ (Nat.le_of_ble_eq_true rfl) (cc4_isAtLeast (by omega) s55 _ hvk h65 _ hq) (fun z70 s70 h70 => ?_)
        obtain ⟨h70, e70⟩ := h70
        obtain rfl := e70.symm
        refine g_if_eq (tgt := 79) dX2_leastMark_73 (by decide) (fun c73 => ?_) (fun c73 => ?_)
        · refine g_iinc dX2_leastMark_79 (by decide) rfl ⟨by omega, by omega⟩ (show (v : Int) + 1 = ((v + 1 : Nat) : Int) from by omega) rfl ?_
          refine g_goto (tgt := 32) dX2_leastMark_82 (by decide) ?_
          refine ih (v + 1) (2 ^ w) X2 s55 (by omega) ⟨fr2, ⟨_, c56, hc22⟩, hI2.2.1, ?_, fun a ha hne => ?_, Or.inr ⟨rfl, hcl⟩⟩ (fun u hu => ?_)
          · rw [hI2.1.hI, hI_uI_n (by omega), hI_uL]
            exact f4
          · rw [hI2.mk ha, upX_n hne]
            exact f5 a ha hne
          · by_cases e : u = v
            · subst e
              exact h70.elim (fun z => by omega) (fun z => z.2)
            · exact hno u (by omega)
        · refine g_iload dX2_leastMark_76 rfl ?_
          refine g_ireturn dX2_leastMark_78 (Or.inl rfl) ⟨_, rfl, ?_⟩
          exact ⟨Or.inl ⟨v, by omega, h70.elim (fun z => z.2) (fun z => by omega), hno, rfl⟩, fr2, ⟨X2, hI2.2.1⟩, _, c56, hc22⟩
  refine g_iload_n dX2_leastMark_0 rfl ?_
  refine g_if_lt (tgt := 22) dX2_leastMark_1 (by decide) (fun c1 => ?_) (fun c1 => ?_)
  · exfalso; omega
  · refine g_iload_n dX2_leastMark_4 rfl ?_
    refine g_aload_n dX2_leastMark_5 rfl ?_
    refine g_getA dX2_leastMark_6 tf_2_21 rfl rfl (crf hf rfl) ?_
    refine g_alen dX2_leastMark_9 rfl (by decide) ?_
    refine g_icmp_ge (tgt := 22) dX2_leastMark_10 (by decide) (fun c10 => ?_) (fun c10 => ?_)
    · exfalso; omega
    · refine g_aload_n dX2_leastMark_13 rfl ?_
      refine g_getA dX2_leastMark_14 tf_2_21 rfl rfl (crf hf rfl) ?_
      refine g_iload_n dX2_leastMark_17 rfl ?_
      refine g_ialdN (w) dX2_leastMark_18 rfl (by omega) (by omega) ?_
      rw [hM]
      refine g_goto (tgt := 23) dX2_leastMark_19 (by decide) ?_
      refine g_istore dX2_leastMark_23 (by decide) rfl ?_
      refine g_ldc dX2_leastMark_25 ti_2_49 ⟨by decide, by decide⟩ ?_
      refine g_istore dX2_leastMark_27 (by decide) rfl ?_
      refine g_iconst dX2_leastMark_29 ⟨by decide, by decide⟩ ?_
      refine g_istore dX2_leastMark_30 (by decide) rfl ?_
      exact lp (M + 1) 0 4194303 X1 s0 (by omega) ⟨FrR.rf s0, hcc, hX1, rfl, fun _ _ _ => rfl, Or.inl rfl⟩ (fun u hu => absurd hu (Nat.not_lt_zero u))
theorem cc6_least {D : Nat} (hD : 11 ≤ D) (σ : am_HS) {b n : Nat} {nm : Nat → Int} {ev : Nat → Den} {ed : Nat → Nat → Prop} {ls : Prop} {W P : Nat} (hG : CG σ b n nm ev ed ls W P) {mk : Nat → Nat → Vl} (hm : ∀ p, p < P → mkOK σ W p (mk p)) (p r w q : Int) : am_Do lc D mX6_least σ [vR (some 0), vI p, vI r, vI w, vI q] (qI fun z s => (¬ (0 ≤ p ∧ p < hI σ 0 7 ∧ (0 ≤ r ∧ r < (n : Int)) ∧ 0 ≤ w ∧ w < hI σ 0 8) ∧ z = -1 ∧ s = uI σ 8 1 (hI σ 8 1 + 1)) ∨ ((0 ≤ p ∧ p < hI σ 0 7 ∧ (0 ≤ r ∧ r < (n : Int)) ∧ 0 ≤ w ∧ w < hI σ 0 8) ∧ ((¬ (oeC σ p.toNat w.toNat) ∧ z = -3 ∧ s = uI σ 8 3 (hI σ 8 3 + 1)) ∨ ((oeC σ p.toNat w.toNat) ∧ q < 0 ∧ z = -4 ∧ s = uI σ 8 4 (hI σ 8 4 + 1)) ∨ ((oeC σ p.toNat w.toNat) ∧ 9999 < q ∧ z = -6 ∧ s = uI σ 8 6 (hI σ 8 6 + 1)) ∨ ((oeC σ p.toNat w.toNat) ∧ 0 ≤ q ∧ q ≤ 9999 ∧ ((∃ v : Nat, (v : Int) ≤ hI σ (37 + w.toNat) 1 ∧ atL (rvC n ev (upX (mk p.toNat) w.toNat (vN (v : Int) 1)) r.toNat) q ∧ (∀ u : Nat, u < v → ¬ atL (rvC n ev (upX (mk p.toNat) w.toNat (vN (u : Int) 1)) r.toNat) q) ∧ z = (v : Int)) ∨ (∀ u : Nat, (u : Int) ≤ hI σ (37 + w.toNat) 1 → ¬ atL (rvC n ev (upX (mk p.toNat) w.toNat (vN (u : Int) 1)) r.toNat) q) ∧ z = -9) ∧ FrR σ s ∧ RKc s)))) := by
  obtain ⟨hf, hb2, hg, hrg, hC, hS, hW, hP, hRK, hWk⟩ := id hG
  obtain ⟨g1, g2, g3⟩ := id hg
  obtain ⟨⟨X0, hX0⟩, cc, hcc, hcc2⟩ := id hRK
  have hn12 : n ≤ 12 := hC.2.1
  have hN : hI σ (6 + b) 0 = (n : Int) := hC.2.2.1
  have hb : b < 2 := hb2
  have hW10 : W ≤ 10 := by omega
  have hP6 : P ≤ 6 := by omega
  obtain ⟨d, rfl⟩ : ∃ d, D = d + 1 := ⟨D - 1, by omega⟩
  refine am_enter rfl rfl (Nat.le_of_ble_eq_true rfl) ?_
  refine g_aload_n dX6_least_0 rfl ?_
  refine g_iload_n dX6_least_1 rfl ?_
  refine g_callvR dX6_least_2 tm_6_67 rfl ⟨rfl, rfl⟩ rfl (Nat.le_of_ble_eq_true rfl) (cc6_workAt (by omega) σ hf _ (by omega)) (fun z2 s2 h2 => ?_)
  obtain ⟨h2, e2⟩ := h2
  obtain rfl := e2.symm
  refine g_astore dX6_least_5 (by decide) rfl ?_
  refine g_aload_n dX6_least_7 rfl ?_
  refine g_iload_n dX6_least_8 rfl ?_
  refine g_iload_n dX6_least_9 rfl ?_
  refine g_callvR dX6_least_10 tm_6_83 rfl ⟨rfl, rfl⟩ rfl (Nat.le_of_ble_eq_true rfl) (cc6_sheetOf (by omega) σ hf hg _ _) (fun z10 s10 h10 => ?_)
  obtain ⟨h10, e10⟩ := h10
  obtain rfl := e10.symm
  refine g_astore dX6_least_13 (by decide) rfl ?_
  refine g_aload dX6_least_15 rfl ?_
  refine g_ifnull (tgt := 33) dX6_least_17 (by decide) (fun c17 => ?_) (fun c17 => ?_)
  · have hwn : ¬ (0 ≤ w ∧ w < hI σ 0 8) := h2.elim (fun z => by rw [z.2] at c17; cases c17) (fun z => z.1)
    refine g_aload_n dX6_least_33 rfl ?_
    refine g_iconst dX6_least_34 ⟨by decide, by decide⟩ ?_
    refine g_callvI dX6_least_35 tm_6_55 rfl ⟨rfl, rfl⟩ rfl (Nat.le_of_ble_eq_true rfl) (cc6_refuse (by omega) σ hf _ ⟨by omega, by omega⟩ g3) (fun z35 s35 h35 => ?_)
    obtain ⟨h35, e35⟩ := h35
    obtain rfl := e35.symm
    subst h35
    refine g_ireturn dX6_least_38 (Or.inl rfl) ⟨_, rfl, ?_⟩
    exact Or.inl ⟨by first | omega | exact fun z => hsn ⟨z.1, z.2.1, z.2.2.2⟩, rfl, rfl⟩
  · obtain ⟨hw1, hw2⟩ : (0 ≤ w ∧ w < hI σ 0 8) ∧ z2 = some (37 + w.toNat) := h2.elim id (fun z => absurd z.2 c17)
    subst hw2
    refine g_aload dX6_least_20 rfl ?_
    refine g_ifnull (tgt := 33) dX6_least_22 (by decide) (fun c22 => ?_) (fun c22 => ?_)
    · have hsn : ¬ (0 ≤ p ∧ p < hI σ 0 7 ∧ 0 ≤ w ∧ w < hI σ 0 8) := h10.elim (fun z => by rw [z.2] at c22; cases c22) (fun z => z.1)
      refine g_aload_n dX6_least_33 rfl ?_
      refine g_iconst dX6_least_34 ⟨by decide, by decide⟩ ?_
      refine g_callvI dX6_least_35 tm_6_55 rfl ⟨rfl, rfl⟩ rfl (Nat.le_of_ble_eq_true rfl) (cc6_refuse (by omega) σ hf _ ⟨by omega, by omega⟩ g3) (fun z35 s35 h35 => ?_)
      obtain ⟨h35, e35⟩ := h35
      obtain rfl := e35.symm
      subst h35
      refine g_ireturn dX6_least_38 (Or.inl rfl) ⟨_, rfl, ?_⟩
      exact Or.inl ⟨by first | omega | exact fun z => hsn ⟨z.1, z.2.1, z.2.2.2⟩, rfl, rfl⟩
    · obtain ⟨hs1, hs2⟩ : (0 ≤ p ∧ p < hI σ 0 7 ∧ 0 ≤ w ∧ w < hI σ 0 8) ∧ z10 = some (47 + 4 * (10 * p + w).toNat) := h10.elim id (fun z => absurd z.2 c22)
      rw [show (10 * p + w).toNat = 10 * p.toNat + w.toNat by omega] at hs2
      subst hs2
      have hk60 : 10 * p.toNat + w.toNat < 60 := by omega
      refine g_aload_n dX6_least_25 rfl ?_
      refine g_iload_n dX6_least_26 rfl ?_
      refine g_callvI dX6_least_27 tm_6_134 rfl ⟨rfl, rfl⟩ rfl (Nat.le_of_ble_eq_true rfl) (cc6_isRule (by omega) σ hf _ hb2 (by omega)) (fun z27 s27 h27 => ?_)
      obtain ⟨h27, e27⟩ := h27
      obtain rfl := e27.symm
      refine g_if_ne (tgt := 39) dX6_least_30 (by decide) (fun c30 => ?_) (fun c30 => ?_)
      · refine g_aload dX6_least_39 rfl ?_
        refine g_getZ dX6_least_41 tf_6_90 (lc_s (by omega)) rfl ?_
        refine g_if_ne (tgt := 55) dX6_least_44 (by decide) (fun c44 => ?_) (fun c44 => ?_)
        · have hoe : ¬ oeC σ p.toNat w.toNat := fun z => c44 z.1
          refine g_aload_n dX6_least_55 rfl ?_
          refine g_bipush dX6_least_56 (by decide) ?_
          refine g_callvI dX6_least_58 tm_6_55 rfl ⟨rfl, rfl⟩ rfl (Nat.le_of_ble_eq_true rfl) (cc6_refuse (by omega) σ hf _ ⟨by omega, by omega⟩ g3) (fun z58 s58 h58 => ?_)
          obtain ⟨h58, e58⟩ := h58
          obtain rfl := e58.symm
          subst h58
          refine g_ireturn dX6_least_61 (Or.inl rfl) ⟨_, rfl, ?_⟩
          exact Or.inr ⟨⟨by omega, by omega, ⟨by omega, by omega⟩, by omega, by omega⟩, Or.inl ⟨hoe, rfl, rfl⟩⟩
        · refine g_aload dX6_least_47 rfl ?_
          refine g_callvI dX6_least_49 tm_6_217 rfl ⟨rfl, rfl⟩ (lc_s (by omega)) (Nat.le_of_ble_eq_true rfl) (cc3_isMarked (by omega) σ hf hk60) (fun z49 s49 h49 => ?_)
          obtain ⟨h49, e49⟩ := h49
          obtain rfl := e49.symm
          refine g_if_eq (tgt := 62) dX6_least_52 (by decide) (fun c52 => ?_) (fun c52 => ?_)
          · have hoe : oeC σ p.toNat w.toNat := ⟨by omega, h49.elim (fun v => by omega) (fun v => v.2)⟩
            refine g_iload dX6_least_62 rfl ?_
            refine g_if_ge (tgt := 74) dX6_least_64 (by decide) (fun c64 => ?_) (fun c64 => ?_)
            · refine g_iload dX6_least_74 rfl ?_
              refine g_sipush dX6_least_76 (by decide) ?_
              refine g_icmp_le (tgt := 89) dX6_least_79 (by decide) (fun c79 => ?_) (fun c79 => ?_)
              · obtain ⟨pn, hpn⟩ : ∃ pn : Nat, p = (pn : Int) := ⟨p.toNat, by omega⟩
                obtain ⟨rn, hrnn⟩ : ∃ rn : Nat, r = (rn : Int) := ⟨r.toNat, by omega⟩
                obtain ⟨wn, hwnn⟩ : ∃ wn : Nat, w = (wn : Int) := ⟨w.toNat, by omega⟩
                subst hpn
                subst hrnn
                subst hwnn
                have hrn : rn < n := by omega
                have hm := hm pn (by omega)
                have hwr := hrg.2 wn (by omega)
                obtain ⟨M, hM⟩ : ∃ M : Nat, hI σ (37 + wn) 1 = (M : Int) := ⟨(hI σ (37 + wn) 1).toNat, by omega⟩
                refine g_aload_n dX6_least_89 rfl ?_
                refine g_iload_n dX6_least_90 rfl ?_
                refine g_callvV dX6_least_91 tm_6_226 rfl ⟨rfl, rfl⟩ rfl (Nat.le_of_ble_eq_true rfl) (cc6_load (by omega) σ hf hg hrg W hW pn (by omega) hX0) (fun s91 h91 => ?_)
                obtain ⟨X1, hL1⟩ := h91
                have hf1 : s91.2.2 = cH b := hL1.1.1.trans hf
                have hC1 := hL1.1.cb hC
                have hx16 := (hL1.2.2.2.1 wn (by omega)).2
                refine g_aload_n dX6_least_94 rfl ?_
                refine g_getA dX6_least_95 tf_6_35 rfl rfl (crf (by first | exact hf | exact hf1) rfl) ?_
                refine g_aload_n dX6_least_98 rfl ?_
                refine g_getA dX6_least_99 tf_6_42 rfl rfl (crf (by first | exact hf | exact hf1) rfl) ?_
                refine g_iload_n dX6_least_102 rfl ?_
                refine g_iload_n dX6_least_103 rfl ?_
                refine g_iload dX6_least_104 rfl ?_
                refine g_callvI dX6_least_106 tm_6_273 rfl ⟨rfl, rfl⟩ rfl (Nat.le_of_ble_eq_true rfl) (cc2_leastMark (by omega) hf1 hC1 hS hWk hm.1 hL1.2.2.1 (fun a ha => by rw [(hL1.2.2.2.1 a ha).1]; exact hm.2 a ha) ⟨cc, hL1.2.1.trans hcc, hcc2⟩ rn wn M hrn (by omega) (hx16.trans hM) (by omega) q ⟨by omega, by omega⟩) (fun z106 s106 h106 => ?_)
                obtain ⟨h106, hfr, hrk⟩ := h106
                refine g_istore dX6_least_109 (by decide) rfl ?_
                refine g_iload dX6_least_111 rfl ?_
                refine g_if_ge (tgt := 121) dX6_least_113 (by decide) (fun c113 => ?_) (fun c113 => ?_)
                · refine g_iload dX6_least_121 rfl ?_
                  refine g_ireturn dX6_least_123 (Or.inl rfl) ⟨_, rfl, ?_⟩
                  refine Or.inr ⟨⟨by omega, by omega, ⟨by omega, by omega⟩, by omega, by omega⟩, Or.inr (Or.inr (Or.inr ⟨hoe, by omega, by omega, ?_, hL1.1.tr hfr, hrk⟩))⟩
                  show (∃ v : Nat, (v : Int) ≤ hI σ (37 + wn) 1 ∧ atL (rvC n ev (upX (mk pn) wn (vN (v : Int) 1)) rn) q ∧ (∀ u : Nat, u < v → ¬ atL (rvC n ev (upX (mk pn) wn (vN (u : Int) 1)) rn) q) ∧ _ = (v : Int)) ∨ (∀ u : Nat, (u : Int) ≤ hI σ (37 + wn) 1 → ¬ atL (rvC n ev (upX (mk pn) wn (vN (u : Int) 1)) rn) q) ∧ _ = -9
                  rw [hM]
                  rcases h106 with ⟨v, v1, v2, v3, v4⟩ | ⟨v1, v2⟩
                  · first
                      | exact Or.inl ⟨v, by omega, v2, v3, v4⟩
                      | exact absurd v4 (by omega)
                  · first
                      | exact Or.inr ⟨fun u hu => v1 u (by omega), rfl⟩
                      | exact absurd v2 (by omega)
                · refine g_bipush dX6_least_116 (by decide) ?_
                  refine g_goto (tgt := 123) dX6_least_118 (by decide) ?_
                  refine g_ireturn dX6_least_123 (Or.inl rfl) ⟨_, rfl, ?_⟩
                  refine Or.inr ⟨⟨by omega, by omega, ⟨by omega, by omega⟩, by omega, by omega⟩, Or.inr (Or.inr (Or.inr ⟨hoe, by omega, by omega, ?_, hL1.1.tr hfr, hrk⟩))⟩
                  show (∃ v : Nat, (v : Int) ≤ hI σ (37 + wn) 1 ∧ atL (rvC n ev (upX (mk pn) wn (vN (v : Int) 1)) rn) q ∧ (∀ u : Nat, u < v → ¬ atL (rvC n ev (upX (mk pn) wn (vN (u : Int) 1)) rn) q) ∧ _ = (v : Int)) ∨ (∀ u : Nat, (u : Int) ≤ hI σ (37 + wn) 1 → ¬ atL (rvC n ev (upX (mk pn) wn (vN (u : Int) 1)) rn) q) ∧ _ = -9
                  rw [hM]
                  rcases h106 with ⟨v, v1, v2, v3, v4⟩ | ⟨v1, v2⟩
                  · first
                      | exact Or.inl ⟨v, by omega, v2, v3, v4⟩
                      | exact absurd v4 (by omega)
                  · first
                      | exact Or.inr ⟨fun u hu => v1 u (by omega), rfl⟩
                      | exact absurd v2 (by omega)
              · refine g_aload_n dX6_least_82 rfl ?_
                refine g_bipush dX6_least_83 (by decide) ?_
                refine g_callvI dX6_least_85 tm_6_55 rfl ⟨rfl, rfl⟩ rfl (Nat.le_of_ble_eq_true rfl) (cc6_refuse (by omega) σ hf _ ⟨by omega, by omega⟩ g3) (fun z85 s85 h85 => ?_)
                obtain ⟨h85, e85⟩ := h85
                obtain rfl := e85.symm
                subst h85
                refine g_ireturn dX6_least_88 (Or.inl rfl) ⟨_, rfl, ?_⟩
                exact Or.inr ⟨⟨by omega, by omega, ⟨by omega, by omega⟩, by omega, by omega⟩, Or.inr (Or.inr (Or.inl ⟨hoe, by omega, rfl, rfl⟩))⟩
            · refine g_aload_n dX6_least_67 rfl ?_
              refine g_bipush dX6_least_68 (by decide) ?_
              refine g_callvI dX6_least_70 tm_6_55 rfl ⟨rfl, rfl⟩ rfl (Nat.le_of_ble_eq_true rfl) (cc6_refuse (by omega) σ hf _ ⟨by omega, by omega⟩ g3) (fun z70 s70 h70 => ?_)
              obtain ⟨h70, e70⟩ := h70
              obtain rfl := e70.symm
              subst h70
              refine g_ireturn dX6_least_73 (Or.inl rfl) ⟨_, rfl, ?_⟩
              exact Or.inr ⟨⟨by omega, by omega, ⟨by omega, by omega⟩, by omega, by omega⟩, Or.inr (Or.inl ⟨hoe, by omega, rfl, rfl⟩)⟩
          · have hoe : ¬ oeC σ p.toNat w.toNat := fun z => h49.elim (fun v => z.2 v.2) (fun v => by omega)
            refine g_aload_n dX6_least_55 rfl ?_
            refine g_bipush dX6_least_56 (by decide) ?_
            refine g_callvI dX6_least_58 tm_6_55 rfl ⟨rfl, rfl⟩ rfl (Nat.le_of_ble_eq_true rfl) (cc6_refuse (by omega) σ hf _ ⟨by omega, by omega⟩ g3) (fun z58 s58 h58 => ?_)
            obtain ⟨h58, e58⟩ := h58
            obtain rfl := e58.symm
            subst h58
            refine g_ireturn dX6_least_61 (Or.inl rfl) ⟨_, rfl, ?_⟩
            exact Or.inr ⟨⟨by omega, by omega, ⟨by omega, by omega⟩, by omega, by omega⟩, Or.inl ⟨hoe, rfl, rfl⟩⟩
      · refine g_aload_n dX6_least_33 rfl ?_
        refine g_iconst dX6_least_34 ⟨by decide, by decide⟩ ?_
        refine g_callvI dX6_least_35 tm_6_55 rfl ⟨rfl, rfl⟩ rfl (Nat.le_of_ble_eq_true rfl) (cc6_refuse (by omega) σ hf _ ⟨by omega, by omega⟩ g3) (fun z35 s35 h35 => ?_)
        obtain ⟨h35, e35⟩ := h35
        obtain rfl := e35.symm
        subst h35
        refine g_ireturn dX6_least_38 (Or.inl rfl) ⟨_, rfl, ?_⟩
        exact Or.inl ⟨by first | omega | exact fun z => hsn ⟨z.1, z.2.1, z.2.2.2⟩, rfl, rfl⟩

