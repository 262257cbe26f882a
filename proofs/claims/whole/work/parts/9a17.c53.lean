/-! THE CLASS: whether anyone would have less -/
theorem all_bits {i : Nat} (h : i < 22) : hasB 4194303 i := by
  have : (2 ^ 22 - 1).testBit i = true := by
    rw [Nat.testBit_two_pow_sub_one]
    exact decide_eq_true h
  exact this
/-- all rules of a book reckoned: their values -/
theorem all_val {n B W : Nat} {nm : Nat → Int} {ev : Nat → Den} {ed : Nat → Nat → Prop} {ls : Prop} {X0 X mk : Nat → Vl} {σ s : am_HS} (hC : CB B n nm ev ed ls σ) (hS : BkS n ev ed) (hWk : ∀ r a, r < n → ed r (12 + a) → a < W) (hI0 : SeI n B ev ed 4194303 4194303 X0 σ n X s) (hmv : ∀ w, vok (mk w)) (hm : ∀ a, a < W → a < 10 → X0 a = mk a) : ∀ r, r < n → X (10 + r) = rvC n ev mk r := by
  have hn := hC.2.1
  refine fun r hr => set_val hS hmv (K := fun _ => True) (fun _ _ _ _ _ _ => trivial) (fun q hq _ => ?_) (fun q a hq _ ha he => ?_) r hr trivial
  · obtain ⟨i, i1, i2⟩ := hC.2.2.2.2.2.2.2.1 q hq
    exact hI0.2.2.2 i q i1 hq i2 ⟨all_bits (by omega), Or.inl rfl⟩
  · rw [hI0.mk ha]
    exact hm a (hWk q a hq he) ha
theorem cc2_keep2 {D : Nat} (hD : 1 ≤ D) (σ : am_HS) {b : Nat} (hf : σ.2.2 = cH b) : am_Do lc D mX2_keep σ [vR (some 5)] (qV fun s => FrR σ s ∧ s.1 = σ.1 ∧ (∀ a, a < 22 → hL s 14 a = hL σ 13 a) ∧ ∀ o j, o ≠ 14 → hL s o j = hL σ o j) := by
  obtain ⟨d, rfl⟩ : ∃ d, D = d + 1 := ⟨D - 1, by omega⟩
  refine am_enter rfl rfl (Nat.le_of_ble_eq_true rfl) ?_
  have lp : ∀ (m k : Nat) (s : am_HS), k + m = 22 → FrR σ s → s.1 = σ.1 → (∀ a, a < k → hL s 14 a = hL σ 13 a) → (∀ o j, o ≠ 14 → hL s o j = hL σ o j) → am_Go lc d 2 2 0 cX2_keep 2 [some (vR (some 5)), some (vI (k : Int))] [] s (qV fun s => FrR σ s ∧ s.1 = σ.1 ∧ (∀ a, a < 22 → hL s 14 a = hL σ 13 a) ∧ ∀ o j, o ≠ 14 → hL s o j = hL σ o j) := by
    intro m
    induction m with
    | zero =>
      intro k s hk h1 h0 h2 h3
      have e : k = 22 := by omega
      subst e
      have hfs : s.2.2 = cH b := h1.1.trans hf
      refine g_iload_n dX2_keep_2 rfl ?_
      refine g_aload_n dX2_keep_3 rfl ?_
      refine g_getA dX2_keep_4 tf_2_9 rfl rfl (crf hfs rfl) ?_
      refine g_alen dX2_keep_7 rfl (by decide) ?_
      refine g_icmp_ge (tgt := 38) dX2_keep_8 (by decide) (fun c8 => ?_) (fun c8 => ?_)
      · refine g_return dX2_keep_38 rfl ⟨rfl, ?_⟩
        exact ⟨h1, h0, h2, h3⟩
      · exfalso; omega
    | succ m ih =>
      intro k s hk h1 h0 h2 h3
      have hfs : s.2.2 = cH b := h1.1.trans hf
      refine g_iload_n dX2_keep_2 rfl ?_
      refine g_aload_n dX2_keep_3 rfl ?_
      refine g_getA dX2_keep_4 tf_2_9 rfl rfl (crf hfs rfl) ?_
      refine g_alen dX2_keep_7 rfl (by decide) ?_
      refine g_icmp_ge (tgt := 38) dX2_keep_8 (by decide) (fun c8 => ?_) (fun c8 => ?_)
      · exfalso; omega
      · refine g_iload_n dX2_keep_11 rfl ?_
        refine g_aload_n dX2_keep_12 rfl ?_
        refine g_getA dX2_keep_13 tf_2_15 rfl rfl (crf hfs rfl) ?_
        refine g_alen dX2_keep_16 rfl (by decide) ?_
        refine g_icmp_ge (tgt := 38) dX2_keep_17 (by decide) (fun c17 => ?_) (fun c17 => ?_)
        · exfalso; omega
        · refine g_aload_n dX2_keep_20 rfl ?_
          refine g_getA dX2_keep_21 tf_2_15 rfl rfl (crf hfs rfl) ?_
          refine g_iload_n dX2_keep_24 rfl ?_
          refine g_aload_n dX2_keep_25 rfl ?_
          refine g_getA dX2_keep_26 tf_2_9 rfl rfl (crf hfs rfl) ?_
          refine g_iload_n dX2_keep_29 rfl ?_
          refine g_laldN (k) dX2_keep_30 rfl (by omega) (by omega) ?_
          refine g_lastN (k) dX2_keep_31 rfl (by omega) (by omega) ?_
          refine g_iinc dX2_keep_32 (by decide) rfl ⟨by omega, by omega⟩ (show (k : Int) + 1 = ((k + 1 : Nat) : Int) from by omega) rfl ?_
          refine g_goto (tgt := 2) dX2_keep_35 (by decide) ?_
          refine ih (k + 1) _ (by omega) (h1.uL _ _ _) h0 (fun a ha => ?_) (fun o j ho => (hL_uL_n (fun z => ho z.1)).trans (h3 o j ho))
          by_cases e : a = k
          · subst e
            rw [hL_uL_e (hL_r _ _ _)]
            exact h3 13 a (by decide)
          · rw [hL_uL_n (by omega)]
            exact h2 a (by omega)
  refine g_iconst dX2_keep_0 ⟨by decide, by decide⟩ ?_
  refine g_istore_n dX2_keep_1 (by decide) rfl ?_
  exact lp 22 0 σ rfl (FrR.rf σ) rfl (fun a ha => absurd ha (Nat.not_lt_zero a)) (fun _ _ _ => rfl)
theorem cc6_lessI {d : Nat} (hd : 3 ≤ d) (σ : am_HS) {b n : Nat} {nm : Nat → Int} {ev : Nat → Den} {ed : Nat → Nat → Prop} {ls : Prop} {W P : Nat} (hG : CG σ b n nm ev ed ls W P) {mk : Nat → Nat → Vl} (hm : ∀ p, p < P → mkOK σ W p (mk p)) {B2 n2 : Nat} {nm2 : Nat → Int} {ev2 : Nat → Den} {ed2 : Nat → Nat → Prop} {ls2 : Prop} (hC2 : CB B2 n2 nm2 ev2 ed2 ls2 σ) (hS2 : BkS n2 ev2 ed2) (hWk2 : ∀ r a, r < n2 → ed2 r (12 + a) → a < W) (p : Nat) (hp : p < P) (s3 : am_HS) (fr : FrR σ s3) (rk : RKc s3) (h13 : ∀ r, r < n2 → hL s3 13 (10 + r) = encV (rvC n2 ev2 (mk p) r)) (h14 : ∀ r, r < n → hL s3 14 (10 + r) = encV (rvC n ev (mk p) r)) (hq : ∀ (o3 o4 : Option am_V), (∀ r, r < n2 → ¬ lsP nm nm2 n (fun q => rvC n ev (mk q)) (fun q => rvC n2 ev2 (mk q)) p r) → am_Go lc d 6 5 2 cX6_lessens 109 [some (vR (some 0)), some (vR (some (6 + B2))), some (vI (p : Int)), o3, o4] [] s3 (qI fun z s => (z = 1 ∧ (∃ p r, p < P ∧ r < n2 ∧ lsP nm nm2 n (fun q => rvC n ev (mk q)) (fun q => rvC n2 ev2 (mk q)) p r) ∨ z = 0 ∧ ¬ (∃ p r, p < P ∧ r < n2 ∧ lsP nm nm2 n (fun q => rvC n ev (mk q)) (fun q => rvC n2 ev2 (mk q)) p r)) ∧ FrR σ s ∧ RKc s)) : ∀ (m r : Nat) (o4 : Option am_V), r + m = n2 → (∀ j, j < r → ¬ lsP nm nm2 n (fun q => rvC n ev (mk q)) (fun q => rvC n2 ev2 (mk q)) p j) → am_Go lc d 6 5 2 cX6_lessens 51 [some (vR (some 0)), some (vR (some (6 + B2))), some (vI (p : Int)), some (vI (r : Int)), o4] [] s3 (qI fun z s => (z = 1 ∧ (∃ p r, p < P ∧ r < n2 ∧ lsP nm nm2 n (fun q => rvC n ev (mk q)) (fun q => rvC n2 ev2 (mk q)) p r) ∨ z = 0 ∧ ¬ (∃ p r, p < P ∧ r < n2 ∧ lsP nm nm2 n (fun q => rvC n ev (mk q)) (fun q => rvC n2 ev2 (mk q)) p r)) ∧ FrR σ s ∧ RKc s) := by
  have hG3 := hG.fr fr rk
  obtain ⟨hf3, hb2, -, -, hC3, hS, -, -, -, -⟩ := id hG3
  have hC23 := fr.cb hC2
  have hB2 : B2 < 2 := hC2.1
  have hn12 : n ≤ 12 := hC3.2.1
  have hn22 : n2 ≤ 12 := hC2.2.1
  have hv1 : ∀ r, vok (rvC n ev (mk p) r) := (rvC_RV hS (hm p hp).1).2.2
  have hv2 : ∀ r, vok (rvC n2 ev2 (mk p) r) := (rvC_RV hS2 (hm p hp).1).2.2
  intro m
  induction m with
  | zero =>
    intro r o4 hr hno
    have e : r = n2 := by omega
    subst e
    have e6 : hI s3 (6 + B2) 0 = (r : Int) := hC23.2.2.1
    refine g_iload_n dX6_lessens_51 rfl ?_
    refine g_aload_n dX6_lessens_52 rfl ?_
    refine g_getI dX6_lessens_53 tf_6_122 (lc_b hB2) rfl ?_
    refine g_icmp_ge (tgt := 109) dX6_lessens_56 (by decide) (fun c56 => ?_) (fun c56 => ?_)
    · exact hq _ _ hno
    · exfalso; omega
  | succ m ih =>
    intro r o4 hr hno
    have hrn : r < n2 := by omega
    have e6 : hI s3 (6 + B2) 0 = (n2 : Int) := hC23.2.2.1
    have enm : hI s3 (19 + 9 * B2) r = nm2 r := hC23.2.2.2.1 r hrn
    have efd : fdS (fun k => hI s3 (19 + 9 * b) k) n (nm2 r) = fdS nm n (nm2 r) := fdS_congr (fun j hj => hC3.2.2.2.1 j hj)
    have hfr := fdS_r nm n (nm2 r)
    refine g_iload_n dX6_lessens_51 rfl ?_
    refine g_aload_n dX6_lessens_52 rfl ?_
    refine g_getI dX6_lessens_53 tf_6_122 (lc_b hB2) rfl ?_
    refine g_icmp_ge (tgt := 109) dX6_lessens_56 (by decide) (fun c56 => ?_) (fun c56 => ?_)
    · exfalso; omega
    · refine g_aload_n dX6_lessens_59 rfl ?_
      refine g_getA dX6_lessens_60 tf_6_42 rfl rfl (crf hf3 rfl) ?_
      refine g_aload_n dX6_lessens_63 rfl ?_
      refine g_iload_n dX6_lessens_64 rfl ?_
      refine g_callvI dX6_lessens_65 tm_6_293 rfl ⟨rfl, rfl⟩ (lc_b hB2) (Nat.le_of_ble_eq_true rfl) (cc0_nameOf (by omega) s3 hf3 hB2 n2 e6 hn22 r) (fun z65 s65 h65 => ?_)
      obtain ⟨h65, e65⟩ := h65
      obtain rfl := e65.symm
      rw [if_pos hrn, enm] at h65
      subst h65
      refine g_callvI dX6_lessens_68 tm_6_296 rfl ⟨rfl, rfl⟩ (lc_b hb2) (Nat.le_of_ble_eq_true rfl) (cc0_find (by omega) s3 hf3 hb2 n hC3.2.2.1 hn12 (nm2 r)) (fun z68 s68 h68 => ?_)
      obtain ⟨h68, e68⟩ := h68
      obtain rfl := e68.symm
      rw [efd] at h68
      refine g_istore dX6_lessens_71 (by decide) rfl ?_
      refine g_iload dX6_lessens_73 rfl ?_
      refine g_if_lt (tgt := 103) dX6_lessens_75 (by decide) (fun c75 => ?_) (fun c75 => ?_)
      · refine g_iinc dX6_lessens_103 (by decide) rfl ⟨by omega, by omega⟩ (show (r : Int) + 1 = ((r + 1 : Nat) : Int) from by omega) rfl ?_
        refine g_goto (tgt := 51) dX6_lessens_106 (by decide) ?_
        refine ih (r + 1) _ (by omega) (fun j hj => ?_)
        by_cases e : j = r
        · subst e
          rintro ⟨o', y1, _⟩
          omega
        · exact hno j (by omega)
      · obtain ⟨o, ho⟩ : ∃ o : Nat, z68 = (o : Int) := ⟨z68.toNat, by omega⟩
        subst ho
        have hon : o < n := by
          rcases hfr with ⟨z, _⟩ | ⟨j, z1, z2, _⟩
          · omega
          · omega
        have hls : lsP nm nm2 n (fun q => rvC n ev (mk q)) (fun q => rvC n2 ev2 (mk q)) p r ↔ ltV (rvC n2 ev2 (mk p) r) (rvC n ev (mk p) o) := by
          constructor
          · rintro ⟨o', y1, y2⟩
            have : o' = o := by omega
            subst this
            exact y2
          · exact fun y => ⟨o, h68.symm, y⟩
        refine g_aload_n dX6_lessens_78 rfl ?_
        refine g_getA dX6_lessens_79 tf_6_35 rfl rfl (crf hf3 rfl) ?_
        refine g_iload_n dX6_lessens_82 rfl ?_
        refine g_callvL dX6_lessens_83 tm_6_237 rfl ⟨rfl, rfl⟩ rfl (Nat.le_of_ble_eq_true rfl) (cc2_ofRule (by omega) s3 hf3 r (by omega)) (fun z83 s83 h83 => ?_)
        obtain ⟨h83, e83⟩ := h83
        obtain rfl := e83.symm
        rw [h13 r hrn] at h83
        refine g_aload_n dX6_lessens_86 rfl ?_
        refine g_getA dX6_lessens_87 tf_6_35 rfl rfl (crf hf3 rfl) ?_
        refine g_iload dX6_lessens_90 rfl ?_
        refine g_callvL dX6_lessens_92 tm_6_299 rfl ⟨rfl, rfl⟩ rfl (Nat.le_of_ble_eq_true rfl) (cc2_kept (by omega) s3 hf3 o (by omega)) (fun z92 s92 h92 => ?_)
        obtain ⟨h92, e92⟩ := h92
        obtain rfl := e92.symm
        rw [h14 o (by omega)] at h92
        refine g_callsI dX6_lessens_95 tm_6_302 rfl ⟨Nat.le_of_ble_eq_true rfl, rfl, rfl⟩ (Nat.le_of_ble_eq_true rfl) (cc4_isLess (by omega) s3 _ _ (hv2 r) (hv1 o) h83 h92) (fun z95 s95 h95 => ?_)
        obtain ⟨h95, e95⟩ := h95
        obtain rfl := e95.symm
        refine g_if_eq (tgt := 103) dX6_lessens_98 (by decide) (fun c98 => ?_) (fun c98 => ?_)
        · refine g_iinc dX6_lessens_103 (by decide) rfl ⟨by omega, by omega⟩ (show (r : Int) + 1 = ((r + 1 : Nat) : Int) from by omega) rfl ?_
          refine g_goto (tgt := 51) dX6_lessens_106 (by decide) ?_
          refine ih (r + 1) _ (by omega) (fun j hj => ?_)
          by_cases e : j = r
          · subst e
            exact fun z => h95.elim (fun w => by omega) (fun w => w.2 (hls.mp z))
          · exact hno j (by omega)
        · refine g_iconst dX6_lessens_101 ⟨by decide, by decide⟩ ?_
          refine g_ireturn dX6_lessens_102 (Or.inr ⟨rfl, (by omega)⟩) ⟨_, rfl, ?_⟩
          exact ⟨Or.inl ⟨rfl, p, r, hp, hrn, hls.mpr (h95.elim (fun z => z.2) (fun z => by omega))⟩, fr, rk⟩
theorem cc6_lessens {D : Nat} (hD : 9 ≤ D) (σ : am_HS) {b n : Nat} {nm : Nat → Int} {ev : Nat → Den} {ed : Nat → Nat → Prop} {ls : Prop} {W P : Nat} (hG : CG σ b n nm ev ed ls W P) {mk : Nat → Nat → Vl} (hm : ∀ p, p < P → mkOK σ W p (mk p)) {B2 n2 : Nat} {nm2 : Nat → Int} {ev2 : Nat → Den} {ed2 : Nat → Nat → Prop} {ls2 : Prop} (hC2 : CB B2 n2 nm2 ev2 ed2 ls2 σ) (hS2 : BkS n2 ev2 ed2) (hWk2 : ∀ r a, r < n2 → ed2 r (12 + a) → a < W) : am_Do lc D mX6_lessens σ [vR (some 0), vR (some (6 + B2))] (qI fun z s => (z = 1 ∧ (∃ p r, p < P ∧ r < n2 ∧ lsP nm nm2 n (fun q => rvC n ev (mk q)) (fun q => rvC n2 ev2 (mk q)) p r) ∨ z = 0 ∧ ¬ (∃ p r, p < P ∧ r < n2 ∧ lsP nm nm2 n (fun q => rvC n ev (mk q)) (fun q => rvC n2 ev2 (mk q)) p r)) ∧ FrR σ s ∧ RKc s) := by
  obtain ⟨d, rfl⟩ : ∃ d, D = d + 1 := ⟨D - 1, by omega⟩
  refine am_enter rfl rfl (Nat.le_of_ble_eq_true rfl) ?_
  have hB2 : B2 < 2 := hC2.1
  have hn22 : n2 ≤ 12 := hC2.2.1
  have lp : ∀ (m p : Nat) (s : am_HS) (o3 o4 : Option am_V), p + m = P → FrR σ s → RKc s → (∀ p', p' < p → ∀ r, r < n2 → ¬ lsP nm nm2 n (fun q => rvC n ev (mk q)) (fun q => rvC n2 ev2 (mk q)) p' r) → am_Go lc d 6 5 2 cX6_lessens 2 [some (vR (some 0)), some (vR (some (6 + B2))), some (vI (p : Int)), o3, o4] [] s (qI fun z s => (z = 1 ∧ (∃ p r, p < P ∧ r < n2 ∧ lsP nm nm2 n (fun q => rvC n ev (mk q)) (fun q => rvC n2 ev2 (mk q)) p r) ∨ z = 0 ∧ ¬ (∃ p r, p < P ∧ r < n2 ∧ lsP nm nm2 n (fun q => rvC n ev (mk q)) (fun q => rvC n2 ev2 (mk q)) p r)) ∧ FrR σ s ∧ RKc s) := by
    intro m
    induction m with
    | zero =>
      intro p s o3 o4 hp fr rk hno
      have hG1 := hG.fr fr rk
      have e7 : hI s 0 7 = (P : Int) := hG1.2.2.2.2.2.2.2.1
      have e : p = P := by omega
      subst e
      refine g_iload_n dX6_lessens_2 rfl ?_
      refine g_aload_n dX6_lessens_3 rfl ?_
      refine g_getI dX6_lessens_4 tf_6_51 rfl rfl ?_
      refine g_icmp_ge (tgt := 115) dX6_lessens_7 (by decide) (fun c7 => ?_) (fun c7 => ?_)
      · refine g_iconst dX6_lessens_115 ⟨by decide, by decide⟩ ?_
        refine g_ireturn dX6_lessens_116 (Or.inr ⟨rfl, (by omega)⟩) ⟨_, rfl, ?_⟩
        exact ⟨Or.inr ⟨rfl, fun ⟨p', r, y1, y2, y3⟩ => hno p' y1 r y2 y3⟩, fr, rk⟩
      · exfalso; omega
    | succ m ih =>
      intro p s o3 o4 hp fr rk hno
      have hG1 := hG.fr fr rk
      obtain ⟨hf, hb2, hg, hrg, hC, hS, hW, hP, ⟨⟨X0, hX0⟩, cc, hcc, hcc2⟩, hWk⟩ := id hG1
      have g1 := hg.1
      have g2 := hg.2.1
      have hpP : p < P := by omega
      have hmp := hm p hpP
      have hn12 : n ≤ 12 := hC.2.1
      refine g_iload_n dX6_lessens_2 rfl ?_
      refine g_aload_n dX6_lessens_3 rfl ?_
      refine g_getI dX6_lessens_4 tf_6_51 rfl rfl ?_
      refine g_icmp_ge (tgt := 115) dX6_lessens_7 (by decide) (fun c7 => ?_) (fun c7 => ?_)
      · exfalso; omega
      · refine g_aload_n dX6_lessens_10 rfl ?_
        refine g_iload_n dX6_lessens_11 rfl ?_
        refine g_callvV dX6_lessens_12 tm_6_226 rfl ⟨rfl, rfl⟩ rfl (Nat.le_of_ble_eq_true rfl) (cc6_load (by omega) s hf hg hrg W hW p (by omega) hX0) (fun s12 h12 => ?_)
        obtain ⟨X1, hL1⟩ := h12
        have hf1 : s12.2.2 = cH b := hL1.1.1.trans hf
        have hC1 := hL1.1.cb hC
        refine g_aload_n dX6_lessens_15 rfl ?_
        refine g_getA dX6_lessens_16 tf_6_35 rfl rfl (crf (by first | exact hf | exact hf1 | exact hf2 | exact hf3) rfl) ?_
        refine g_aload_n dX6_lessens_19 rfl ?_
        refine g_getA dX6_lessens_20 tf_6_42 rfl rfl (crf (by first | exact hf | exact hf1 | exact hf2 | exact hf3) rfl) ?_
        refine g_ldc dX6_lessens_23 ti_6_232 ⟨by decide, by decide⟩ ?_
        refine g_ldc dX6_lessens_25 ti_6_232 ⟨by decide, by decide⟩ ?_
        refine g_callvV dX6_lessens_27 tm_6_233 rfl ⟨rfl, rfl⟩ rfl (Nat.le_of_ble_eq_true rfl) (cc2_settle (by omega) hf1 hC1 hS hL1.2.2.1 4194303 4194303 (by decide) (by decide)) (fun s27 h27 => ?_)
        obtain ⟨X2, hI2⟩ := h27
        have hm1 : ∀ a, a < W → a < 10 → X1 a = mk p a := fun a ha _ => by rw [(hL1.2.2.2.1 a ha).1, wvC_fr fr (by omega)]; exact hmp.2 a ha
        have hval1 := all_val hC1 hS hWk hI2 hmp.1 hm1
        have hf2 : s27.2.2 = cH b := hI2.1.2.1.trans hf1
        have fr2 : FrR σ s27 := fr.tr (hL1.1.tr hI2.1.fr)
        refine g_aload_n dX6_lessens_30 rfl ?_
        refine g_getA dX6_lessens_31 tf_6_35 rfl rfl (crf (by first | exact hf | exact hf1 | exact hf2 | exact hf3) rfl) ?_
        refine g_callvV dX6_lessens_34 tm_6_290 rfl ⟨rfl, rfl⟩ rfl (Nat.le_of_ble_eq_true rfl) (cc2_keep2 (by omega) s27 hf2) (fun s34 h34 => ?_)
        obtain ⟨kf, k3, k1, k2⟩ := h34
        have hf3 : s34.2.2 = cH b := kf.1.trans hf2
        have fr3 := fr2.tr kf
        have hC23 := fr3.cb hC2
        have hX3 : XV X2 s34 := hI2.2.1.congr (fun a ha => k2 13 a (by decide))
        refine g_aload_n dX6_lessens_37 rfl ?_
        refine g_getA dX6_lessens_38 tf_6_35 rfl rfl (crf (by first | exact hf | exact hf1 | exact hf2 | exact hf3) rfl) ?_
        refine g_aload_n dX6_lessens_41 rfl ?_
        refine g_ldc dX6_lessens_42 ti_6_232 ⟨by decide, by decide⟩ ?_
        refine g_ldc dX6_lessens_44 ti_6_232 ⟨by decide, by decide⟩ ?_
        refine g_callvV dX6_lessens_46 tm_6_233 rfl ⟨rfl, rfl⟩ rfl (Nat.le_of_ble_eq_true rfl) (cc2_settle (by omega) hf3 hC23 hS2 hX3 4194303 4194303 (by decide) (by decide)) (fun s46 h46 => ?_)
        obtain ⟨X4, hI4⟩ := h46
        have hval2 := all_val hC23 hS2 hWk2 hI4 hmp.1 (fun a ha ha10 => by rw [hI2.mk ha10]; exact hm1 a ha ha10)
        have fr4 : FrR σ s46 := fr3.tr hI4.1.fr
        have rk4 : RKc s46 := ⟨⟨X4, hI4.2.1⟩, cc, (hI4.1.hI 5 6).trans (by
          have e1 : hI s34 5 6 = hI s27 5 6 := by unfold hI; rw [k3]
          rw [e1, hI2.1.hI, hL1.2.1]
          exact hcc), hcc2⟩
        refine g_iconst dX6_lessens_49 ⟨by decide, by decide⟩ ?_
        refine g_istore_n dX6_lessens_50 (by decide) rfl ?_
        refine cc6_lessI (by omega) σ hG hm hC2 hS2 hWk2 p hpP s46 fr4 rk4 (fun r hr => ?_) (fun r hr => ?_) (fun o3 o4 hno2 => ?_) n2 0 _ (by omega) (fun j hj => absurd hj (Nat.not_lt_zero j))
        · rw [← hval2 r hr]
          exact (hI4.2.1 (10 + r) (by omega)).2
        · rw [hI4.1.2.2 14 (10 + r) (by decide) (by decide), k1 (10 + r) (by omega), ← hval1 r hr]
          exact (hI2.2.1 (10 + r) (by omega)).2
        · refine g_iinc dX6_lessens_109 (by decide) rfl ⟨by omega, by omega⟩ (show (p : Int) + 1 = ((p + 1 : Nat) : Int) from by omega) rfl ?_
          refine g_goto (tgt := 2) dX6_lessens_112 (by decide) ?_
          refine ih (p + 1) s46 _ _ (by omega) fr4 rk4 (fun p' hp' r hr => ?_)
          by_cases e : p' = p
          · subst e
            exact hno2 r hr
          · exact hno p' (by omega) r hr
  refine g_iconst dX6_lessens_0 ⟨by decide, by decide⟩ ?_
  refine g_istore_n dX6_lessens_1 (by decide) rfl ?_
  exact lp P 0 σ _ _ (by omega) (FrR.rf σ) hG.2.2.2.2.2.2.2.2.1 (fun p' h => absurd h (Nat.not_lt_zero p'))
