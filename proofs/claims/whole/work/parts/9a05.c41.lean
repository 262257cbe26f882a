/-! THE CLASS: the reckoner's small calls -/
/-- all that is not the reckoner's stands -/
def FrR (σ s : am_HS) : Prop := s.2.2 = σ.2.2 ∧ ∀ o j, ¬ (o = 16 ∨ o = 17 ∨ o = 18 ∨ (o = 5 ∧ j = 6)) → hI s o j = hI σ o j
theorem FrR.rf (σ : am_HS) : FrR σ σ := ⟨rfl, fun _ _ _ => rfl⟩
theorem FrR.tr {σ s u : am_HS} (h : FrR σ s) (h2 : FrR s u) : FrR σ u := ⟨h2.1.trans h.1, fun o j q => (h2.2 o j q).trans (h.2 o j q)⟩
theorem FrR.uL {σ s : am_HS} (h : FrR σ s) (o j : Nat) (x : Int) : FrR σ (uL s o j x) := ⟨h.1, h.2⟩
theorem FrR.uI {σ s : am_HS} (h : FrR σ s) {o j : Nat} {x : Int} (hj : o = 16 ∨ o = 17 ∨ o = 18 ∨ (o = 5 ∧ j = 6)) : FrR σ (uI s o j x) := ⟨h.1, fun a b q => (hI_uI_n (fun z => q (by rw [z.1, z.2]; exact hj))).trans (h.2 a b q)⟩
theorem SeF.fr {σ s : am_HS} (h : SeF σ s) : FrR σ s := ⟨h.2.1, fun o j _ => h.hI o j⟩
theorem FrR.cb {B n : Nat} {nm : Nat → Int} {ev : Nat → Den} {ed : Nat → Nat → Prop} {ls : Prop} {σ s : am_HS} (f : FrR σ s) (h : CB B n nm ev ed ls σ) : CB B n nm ev ed ls s := h.of (fun o k hk => f.2 o k (by have := h.1; unfold cbc at hk; omega))
/-- the reckoner's own state -/
def RKc (σ : am_HS) : Prop := (∃ X, XV X σ) ∧ ∃ c : Nat, hI σ 5 6 = (c : Int) ∧ c < 4194304
theorem XV.congr {X : Nat → Vl} {σ s : am_HS} (h : XV X σ) (he : ∀ a, a < 22 → hL s 13 a = hL σ 13 a) : XV X s := fun a ha => ⟨(h a ha).1, (he a ha).trans (h a ha).2⟩
theorem XV.up {X : Nat → Vl} {σ : am_HS} {w : Nat} {v : Vl} (h : XV X σ) (hv : vok v) : XV (upX X w v) (uL σ 13 w (encV v)) := fun a ha => by
  by_cases e : a = w
  · subst e
    rw [upX_e]
    exact ⟨hv, hL_uL_e (encV_r hv)⟩
  · rw [upX_n e, hL_uL_n (by omega)]
    exact h a ha
theorem cc2_ofRule {D : Nat} (hD : 2 ≤ D) (σ : am_HS) {b : Nat} (hf : σ.2.2 = cH b) (r : Nat) (hr : r < 12) : am_Do lc D mX2_ofRule σ [vR (some 5), vI (r : Int)] (qL fun z s => z = hL σ 13 (10 + r) ∧ s = σ) := by
  obtain ⟨d, rfl⟩ : ∃ d, D = d + 1 := ⟨D - 1, by omega⟩
  refine am_enter rfl rfl (Nat.le_of_ble_eq_true rfl) ?_
  refine g_aload_n dX2_ofRule_0 rfl ?_
  refine g_aload_n dX2_ofRule_1 rfl ?_
  refine g_getA dX2_ofRule_2 tf_2_9 rfl rfl (crf hf rfl) ?_
  refine g_bipush dX2_ofRule_5 (by decide) ?_
  refine g_iload_n dX2_ofRule_7 rfl ?_
  refine g_iadd dX2_ofRule_8 rfl ⟨by omega, by omega⟩ ?_
  refine g_callvL dX2_ofRule_9 tm_2_35 rfl ⟨rfl, rfl⟩ rfl (Nat.le_of_ble_eq_true rfl) (cc2_at (by omega) σ 13 22 rfl (by decide) _) (fun z9 s9 h9 => ?_)
  obtain ⟨h9, e9⟩ := h9
  obtain rfl := e9.symm
  refine g_lreturn dX2_ofRule_12 rfl ⟨_, rfl, ?_⟩
  refine ⟨?_, rfl⟩
  rcases h9 with ⟨z1, z2⟩ | ⟨z1, z2⟩
  · rw [z2, show ((10 : Int) + (r : Int)).toNat = 10 + r by omega]
  · exact absurd (show (0 : Int) ≤ 10 + (r : Int) ∧ 10 + (r : Int) < 22 by omega) z1

theorem cc2_kept {D : Nat} (hD : 2 ≤ D) (σ : am_HS) {b : Nat} (hf : σ.2.2 = cH b) (r : Nat) (hr : r < 12) : am_Do lc D mX2_kept σ [vR (some 5), vI (r : Int)] (qL fun z s => z = hL σ 14 (10 + r) ∧ s = σ) := by
  obtain ⟨d, rfl⟩ : ∃ d, D = d + 1 := ⟨D - 1, by omega⟩
  refine am_enter rfl rfl (Nat.le_of_ble_eq_true rfl) ?_
  refine g_aload_n dX2_kept_0 rfl ?_
  refine g_aload_n dX2_kept_1 rfl ?_
  refine g_getA dX2_kept_2 tf_2_15 rfl rfl (crf hf rfl) ?_
  refine g_bipush dX2_kept_5 (by decide) ?_
  refine g_iload_n dX2_kept_7 rfl ?_
  refine g_iadd dX2_kept_8 rfl ⟨by omega, by omega⟩ ?_
  refine g_callvL dX2_kept_9 tm_2_35 rfl ⟨rfl, rfl⟩ rfl (Nat.le_of_ble_eq_true rfl) (cc2_at (by omega) σ 14 22 rfl (by decide) _) (fun z9 s9 h9 => ?_)
  obtain ⟨h9, e9⟩ := h9
  obtain rfl := e9.symm
  refine g_lreturn dX2_kept_12 rfl ⟨_, rfl, ?_⟩
  refine ⟨?_, rfl⟩
  rcases h9 with ⟨z1, z2⟩ | ⟨z1, z2⟩
  · rw [z2, show ((10 : Int) + (r : Int)).toNat = 10 + r by omega]
  · exact absurd (show (0 : Int) ≤ 10 + (r : Int) ∧ 10 + (r : Int) < 22 by omega) z1

theorem cc2_setMark {D : Nat} (hD : 1 ≤ D) (σ : am_HS) {b : Nat} (hf : σ.2.2 = cH b) (w : Nat) (hw : w < 10) (x m : Int) : am_Do lc D mX2_setMark σ [vR (some 5), vI (w : Int), vL x, vI m] (qV fun s => s = uI (uL σ 13 w x) 16 w m) := by
  obtain ⟨d, rfl⟩ : ∃ d, D = d + 1 := ⟨D - 1, by omega⟩
  refine am_enter rfl rfl (Nat.le_of_ble_eq_true rfl) ?_
  refine g_iload_n dX2_setMark_0 rfl ?_
  refine g_if_lt (tgt := 37) dX2_setMark_1 (by decide) (fun c1 => ?_) (fun c1 => ?_)
  · exfalso; omega
  · refine g_iload_n dX2_setMark_4 rfl ?_
    refine g_aload_n dX2_setMark_5 rfl ?_
    refine g_getA dX2_setMark_6 tf_2_21 rfl rfl (crf hf rfl) ?_
    refine g_alen dX2_setMark_9 rfl (by decide) ?_
    refine g_icmp_ge (tgt := 37) dX2_setMark_10 (by decide) (fun c10 => ?_) (fun c10 => ?_)
    · exfalso; omega
    · refine g_iload_n dX2_setMark_13 rfl ?_
      refine g_aload_n dX2_setMark_14 rfl ?_
      refine g_getA dX2_setMark_15 tf_2_9 rfl rfl (crf hf rfl) ?_
      refine g_alen dX2_setMark_18 rfl (by decide) ?_
      refine g_icmp_ge (tgt := 37) dX2_setMark_19 (by decide) (fun c19 => ?_) (fun c19 => ?_)
      · exfalso; omega
      · refine g_aload_n dX2_setMark_22 rfl ?_
        refine g_getA dX2_setMark_23 tf_2_9 rfl rfl (crf hf rfl) ?_
        refine g_iload_n dX2_setMark_26 rfl ?_
        refine g_lload_n dX2_setMark_27 rfl ?_
        refine g_lastN (w) dX2_setMark_28 rfl (by omega) (by omega) ?_
        refine g_aload_n dX2_setMark_29 rfl ?_
        refine g_getA dX2_setMark_30 tf_2_21 rfl rfl (crf hf rfl) ?_
        refine g_iload_n dX2_setMark_33 rfl ?_
        refine g_iload dX2_setMark_34 rfl ?_
        refine g_iastN (w) dX2_setMark_36 rfl (by omega) (by omega) ?_
        refine g_return dX2_setMark_37 rfl ⟨rfl, ?_⟩
        rfl

theorem cc2_tryMark {D : Nat} (hD : 2 ≤ D) (σ : am_HS) {b : Nat} (hf : σ.2.2 = cH b) (w v : Nat) (hw : w < 10) (hv : v ≤ 1000) (c : Nat) (hc : hI σ 5 6 = (c : Int)) (hc2 : c < 4194304) : am_Do lc D mX2_tryMark σ [vR (some 5), vI (w : Int), vI (v : Int)] (qV fun s => s = uI (uL σ 13 w ((v : Int) * 4294967296 + 1)) 5 6 ((c ||| 2 ^ w : Nat) : Int)) := by
  have hp := pow_lt22 (m := w) (by omega)
  obtain ⟨d, rfl⟩ : ∃ d, D = d + 1 := ⟨D - 1, by omega⟩
  refine am_enter rfl rfl (Nat.le_of_ble_eq_true rfl) ?_
  refine g_iload_n dX2_tryMark_0 rfl ?_
  refine g_if_lt (tgt := 32) dX2_tryMark_1 (by decide) (fun c1 => ?_) (fun c1 => ?_)
  · exfalso; omega
  · refine g_iload_n dX2_tryMark_4 rfl ?_
    refine g_bipush dX2_tryMark_5 (by decide) ?_
    refine g_icmp_ge (tgt := 32) dX2_tryMark_7 (by decide) (fun c7 => ?_) (fun c7 => ?_)
    · exfalso; omega
    · refine g_aload_n dX2_tryMark_10 rfl ?_
      refine g_getA dX2_tryMark_11 tf_2_9 rfl rfl (crf hf rfl) ?_
      refine g_iload_n dX2_tryMark_14 rfl ?_
      refine g_iload_n dX2_tryMark_15 rfl ?_
      refine g_callsL dX2_tryMark_16 tm_2_80 rfl ⟨Nat.le_of_ble_eq_true rfl, rfl, rfl⟩ (Nat.le_of_ble_eq_true rfl) (cc4_whole (by omega) σ _ ⟨by omega, by omega⟩) (fun z16 s16 h16 => ?_)
      obtain ⟨h16, e16⟩ := h16
      obtain rfl := e16.symm
      subst h16
      refine g_lastN (w) dX2_tryMark_19 rfl (by omega) (by omega) ?_
      refine g_aload_n dX2_tryMark_20 rfl ?_
      refine g_dup dX2_tryMark_21 rfl ?_
      refine g_getI dX2_tryMark_22 tf_2_128 rfl rfl ?_
      rw [hI_uL, hc]
      refine g_iconst dX2_tryMark_25 ⟨by decide, by decide⟩ ?_
      refine g_iload_n dX2_tryMark_26 rfl ?_
      refine g_ishl dX2_tryMark_27 (bt_shl1 (by omega)) ?_
      refine g_ior dX2_tryMark_28 (bt_or (by omega) (by omega)) ?_
      refine g_putI dX2_tryMark_29 tf_2_128 rfl rfl rfl ?_
      refine g_return dX2_tryMark_32 rfl ⟨rfl, ?_⟩
      rfl

theorem cc2_tryMarkN {D : Nat} (hD : 2 ≤ D) (σ : am_HS) (w v : Int) (hw : w < 0) : am_Do lc D mX2_tryMark σ [vR (some 5), vI w, vI v] (qV fun s => s = σ) := by
  obtain ⟨d, rfl⟩ : ∃ d, D = d + 1 := ⟨D - 1, by omega⟩
  refine am_enter rfl rfl (Nat.le_of_ble_eq_true rfl) ?_
  refine g_iload_n dX2_tryMark_0 rfl ?_
  refine g_if_lt (tgt := 32) dX2_tryMark_1 (by decide) (fun c1 => ?_) (fun c1 => ?_)
  · refine g_return dX2_tryMark_32 rfl ⟨rfl, ?_⟩
    rfl
  · exfalso; omega

theorem cc2_keep {D : Nat} (hD : 1 ≤ D) (σ : am_HS) {b : Nat} (hf : σ.2.2 = cH b) : am_Do lc D mX2_keep σ [vR (some 5)] (qV fun s => FrR σ s ∧ (∀ a, a < 22 → hL s 14 a = hL σ 13 a) ∧ ∀ o j, o ≠ 14 → hL s o j = hL σ o j) := by
  obtain ⟨d, rfl⟩ : ∃ d, D = d + 1 := ⟨D - 1, by omega⟩
  refine am_enter rfl rfl (Nat.le_of_ble_eq_true rfl) ?_
  have lp : ∀ (m k : Nat) (s : am_HS), k + m = 22 → FrR σ s → (∀ a, a < k → hL s 14 a = hL σ 13 a) → (∀ o j, o ≠ 14 → hL s o j = hL σ o j) → am_Go lc d 2 2 0 cX2_keep 2 [some (vR (some 5)), some (vI (k : Int))] [] s (qV fun s => FrR σ s ∧ (∀ a, a < 22 → hL s 14 a = hL σ 13 a) ∧ ∀ o j, o ≠ 14 → hL s o j = hL σ o j) := by
    intro m
    induction m with
    | zero =>
      intro k s hk h1 h2 h3
      have e : k = 22 := by omega
      subst e
      have hfs : s.2.2 = cH b := h1.1.trans hf
      refine g_iload_n dX2_keep_2 rfl ?_
      refine g_aload_n dX2_keep_3 rfl ?_
      refine g_getA dX2_keep_4 tf_2_9 rfl rfl (crf hfs rfl) ?_
      refine g_alen dX2_keep_7 rfl (by decide) ?_
      refine g_icmp_ge (tgt := 38) dX2_keep_8 (by decide) (fun c8 => ?_) (fun c8 => ?_)
      · refine g_return dX2_keep_38 rfl ⟨rfl, ?_⟩
        exact ⟨h1, h2, h3⟩
      · exfalso; omega
    | succ m ih =>
      intro k s hk h1 h2 h3
      have hfs : s.2.2 = cH b := h1.1.trans hf
      refine g_iload_n dX2_keep_2 rfl ?_
      refine g_aload_n dX2_keep_3 rfl ?_
      refine g_getA dX2_keep_4 tf_2_9 rfl rfl (crf hfs rfl) ?_
      refine g_alen dX2_keep_7 rfl (by decide) ?_
      refine g_icmp_ge (tgt := 38) dX2_keep_8 (by decide) (fun c8 => ?_) (fun c8 => ?_)
      · exfalso; omega
      · refine g_iload_n dX2_keep_11 rfl ?_
        refine g_aload_n dX2_keep_12 rfl ?_
        refine g_getA dX2_keep_13 tf_2_15 rfl rfl (crf hfs rfl) ?_
        refine g_alen dX2_keep_16 rfl (by decide) ?_
        refine g_icmp_ge (tgt := 38) dX2_keep_17 (by decide) (fun c17 => ?_) (fun c17 => ?_)
        · exfalso; omega
        · refine g_aload_n dX2_keep_20 rfl ?_
          refine g_getA dX2_keep_21 tf_2_15 rfl rfl (crf hfs rfl) ?_
          refine g_iload_n dX2_keep_24 rfl ?_
          refine g_aload_n dX2_keep_25 rfl ?_
          refine g_getA dX2_keep_26 tf_2_9 rfl rfl (crf hfs rfl) ?_
          refine g_iload_n dX2_keep_29 rfl ?_
          refine g_laldN (k) dX2_keep_30 rfl (by omega) (by omega) ?_
          refine g_lastN (k) dX2_keep_31 rfl (by omega) (by omega) ?_
          refine g_iinc dX2_keep_32 (by decide) rfl ⟨by omega, by omega⟩ (show (k : Int) + 1 = ((k + 1 : Nat) : Int) from by omega) rfl ?_
          refine g_goto (tgt := 2) dX2_keep_35 (by decide) ?_
          refine ih (k + 1) _ (by omega) (h1.uL _ _ _) (fun a ha => ?_) (fun o j ho => (hL_uL_n (fun z => ho z.1)).trans (h3 o j ho))
          by_cases e : a = k
          · subst e
            rw [hL_uL_e (hL_r _ _ _)]
            exact h3 13 a (by decide)
          · rw [hL_uL_n (by omega)]
            exact h2 a (by omega)
  refine g_iconst dX2_keep_0 ⟨by decide, by decide⟩ ?_
  refine g_istore_n dX2_keep_1 (by decide) rfl ?_
  exact lp 22 0 σ rfl (FrR.rf σ) (fun a ha => absurd ha (Nat.not_lt_zero a)) (fun _ _ _ => rfl)
/-- a pupil's marks laid out: k works of them -/
def LdI (σ : am_HS) (p k : Nat) (X0 X : Nat → Vl) (s : am_HS) : Prop := FrR σ s ∧ hI s 5 6 = hI σ 5 6 ∧ XV X s ∧ (∀ w, w < k → X w = wvC σ (10 * p + w) w ∧ hI s 16 w = hI σ (37 + w) 1) ∧ ∀ a, k ≤ a → X a = X0 a
theorem rgC.of {σ s : am_HS} (h : rgC σ) (e : ∀ o j, 37 ≤ o → hI s o j = hI σ o j) : rgC s := by
  obtain ⟨h1, h2⟩ := h
  refine ⟨fun k hk => ?_, fun w hw => ?_⟩
  · simp only [e _ _ (show 37 ≤ 47 + 4 * k by omega), e _ _ (show 37 ≤ 47 + 4 * k + 1 by omega), e _ _ (show 37 ≤ 47 + 4 * k + 2 by omega), e _ _ (show 37 ≤ 47 + 4 * k + 3 by omega)]
    exact h1 k hk
  · simp only [e _ _ (show 37 ≤ 37 + w by omega)]
    exact h2 w hw
theorem wvC_fr {σ s : am_HS} (f : FrR σ s) {k w : Nat} (hw : w < 10) : wvC s k w = wvC σ k w := by
  have e : ∀ o j, 37 ≤ o → hI s o j = hI σ o j := fun o j h => f.2 o j (by omega)
  unfold wvC shC
  simp only [e _ _ (show 37 ≤ 47 + 4 * k by omega), e _ _ (show 37 ≤ 37 + w by omega), e _ _ (show 37 ≤ 47 + 4 * k + 1 by omega), e _ _ (show 37 ≤ 47 + 4 * k + 2 by omega), e _ _ (show 37 ≤ 47 + 4 * k + 3 by omega)]
theorem cc6_load {D : Nat} (hD : 7 ≤ D) (σ : am_HS) {b : Nat} (hf : σ.2.2 = cH b) (hg : GC σ) (hb : rgC σ) (W : Nat) (hW : hI σ 0 8 = (W : Int)) (p : Nat) (hp : (p : Int) < hI σ 0 7) {X0 : Nat → Vl} (hX : XV X0 σ) : am_Do lc D mX6_load σ [vR (some 0), vI (p : Int)] (qV fun s => ∃ X, LdI σ p W X0 X s) := by
  obtain ⟨d, rfl⟩ : ∃ d, D = d + 1 := ⟨D - 1, by omega⟩
  refine am_enter rfl rfl (Nat.le_of_ble_eq_true rfl) ?_
  obtain ⟨g1, g2, g3⟩ := id hg
  have lp : ∀ (m k : Nat) (X : Nat → Vl) (s : am_HS) (o3 o4 : Option am_V), k + m = W → LdI σ p k X0 X s → am_Go lc d 6 5 0 cX6_load 2 [some (vR (some 0)), some (vI (p : Int)), some (vI (k : Int)), o3, o4] [] s (qV fun s => ∃ X, LdI σ p W X0 X s) := by
    intro m
    induction m with
    | zero =>
      intro k X s o3 o4 hk hI0
      have e : k = W := by omega
      subst e
      have e8 : hI s 0 8 = (k : Int) := (hI0.1.2 0 8 (by omega)).trans hW
      refine g_iload_n dX6_load_2 rfl ?_
      refine g_aload_n dX6_load_3 rfl ?_
      refine g_getI dX6_load_4 tf_6_64 rfl rfl ?_
      refine g_icmp_ge (tgt := 57) dX6_load_7 (by decide) (fun c7 => ?_) (fun c7 => ?_)
      · refine g_return dX6_load_57 rfl ⟨rfl, ?_⟩
        exact ⟨X, hI0⟩
      · exfalso; omega
    | succ m ih =>
      intro k X s o3 o4 hk hI0
      have hfs : s.2.2 = cH b := hI0.1.1.trans hf
      have e8 : hI s 0 8 = (W : Int) := (hI0.1.2 0 8 (by omega)).trans hW
      have e7 : hI s 0 7 = hI σ 0 7 := hI0.1.2 0 7 (by omega)
      have hgs : GC s := ⟨by rw [e7]; exact g1, by rw [e8, ← hW]; exact g2, fun j hj => by rw [hI0.1.2 8 j (by omega)]; exact g3 j hj⟩
      have hbs : rgC s := hb.of (fun o j ho => hI0.1.2 o j (by omega))
      have hk10 : k < 10 := by omega
      have hp6 : p < 6 := by omega
      refine g_iload_n dX6_load_2 rfl ?_
      refine g_aload_n dX6_load_3 rfl ?_
      refine g_getI dX6_load_4 tf_6_64 rfl rfl ?_
      refine g_icmp_ge (tgt := 57) dX6_load_7 (by decide) (fun c7 => ?_) (fun c7 => ?_)
      · exfalso; omega
      · refine g_aload_n dX6_load_10 rfl ?_
        refine g_iload_n dX6_load_11 rfl ?_
        refine g_callvR dX6_load_12 tm_6_67 rfl ⟨rfl, rfl⟩ rfl (Nat.le_of_ble_eq_true rfl) (cc6_workAt (by omega) s hfs _ (by omega)) (fun z12 s12 h12 => ?_)
        obtain ⟨h12, e12⟩ := h12
        obtain rfl := e12.symm
        have hz12 : z12 = some (37 + k) := by
          rcases h12 with ⟨z1, z2⟩ | ⟨z1, z2⟩
          · rw [z2]; congr 1
          · exact absurd (show (0 : Int) ≤ (k : Int) ∧ (k : Int) < hI s 0 8 from ⟨by omega, by omega⟩) z1
        clear h12
        subst hz12
        refine g_astore_n dX6_load_15 (by decide) rfl ?_
        refine g_aload_n dX6_load_16 rfl ?_
        refine g_iload_n dX6_load_17 rfl ?_
        refine g_iload_n dX6_load_18 rfl ?_
        refine g_callvR dX6_load_19 tm_6_83 rfl ⟨rfl, rfl⟩ rfl (Nat.le_of_ble_eq_true rfl) (cc6_sheetOf (by omega) s hfs hgs _ _) (fun z19 s19 h19 => ?_)
        obtain ⟨h19, e19⟩ := h19
        obtain rfl := e19.symm
        have hz19 : z19 = some (47 + 4 * (10 * p + k)) := by
          rcases h19 with ⟨z1, z2⟩ | ⟨z1, z2⟩
          · rw [z2, show (10 * (p : Int) + (k : Int)).toNat = 10 * p + k by omega]
          · exact absurd (show (0 : Int) ≤ (p : Int) ∧ (p : Int) < hI s 0 7 ∧ (0 : Int) ≤ (k : Int) ∧ (k : Int) < hI s 0 8 from ⟨by omega, by omega, by omega, by omega⟩) z1
        clear h19
        subst hz19
        refine g_astore dX6_load_22 (by decide) rfl ?_
        refine g_aload_n dX6_load_24 rfl ?_
        refine g_ifnull (tgt := 51) dX6_load_25 (by decide) (fun c25 => ?_) (fun c25 => ?_)
        · cases c25
        · refine g_aload dX6_load_28 rfl ?_
          refine g_ifnull (tgt := 51) dX6_load_30 (by decide) (fun c30 => ?_) (fun c30 => ?_)
          · cases c30
          · refine g_aload_n dX6_load_33 rfl ?_
            refine g_getA dX6_load_34 tf_6_35 rfl rfl (crf hfs rfl) ?_
            refine g_iload_n dX6_load_37 rfl ?_
            refine g_aload dX6_load_38 rfl ?_
            refine g_aload_n dX6_load_40 rfl ?_
            refine g_callvL dX6_load_41 tm_6_209 rfl ⟨rfl, rfl⟩ (lc_s (by omega)) (Nat.le_of_ble_eq_true rfl) (cc3_worth (by omega) s hfs (by omega) hbs hk10) (fun z41 s41 h41 => ?_)
            obtain ⟨h41, e41⟩ := h41
            obtain rfl := e41.symm
            rw [wvC_fr hI0.1 hk10] at h41
            subst h41
            refine g_aload_n dX6_load_44 rfl ?_
            refine g_getI dX6_load_45 tf_6_74 (lc_w (by omega)) rfl ?_
            refine g_callvV dX6_load_48 tm_6_306 rfl ⟨rfl, rfl⟩ rfl (Nat.le_of_ble_eq_true rfl) (cc2_setMark (by omega) s hfs k hk10 _ _) (fun s48 h48 => ?_)
            subst h48
            refine g_iinc dX6_load_51 (by decide) rfl ⟨by omega, by omega⟩ (show (k : Int) + 1 = ((k + 1 : Nat) : Int) from by omega) rfl ?_
            refine g_goto (tgt := 2) dX6_load_54 (by decide) ?_
            have hvv := wvC_ok σ (10 * p + k) k
            have e37 : hI s (37 + k) 1 = hI σ (37 + k) 1 := hI0.1.2 _ _ (by omega)
            refine ih (k + 1) (upX X k (wvC σ (10 * p + k) k)) _ _ _ (by omega) ⟨(hI0.1.uL _ _ _).uI (by omega), ?_, ?_, fun w hw => ?_, fun a ha => ?_⟩
            · rw [hI_uI_n (by omega), hI_uL]
              exact hI0.2.1
            · exact (hI0.2.2.1.up hvv).congr (fun a ha => rfl)
            · by_cases e : w = k
              · subst e
                rw [upX_e, hI_uI_e (hI_r _ _ _)]
                exact ⟨rfl, e37⟩
              · rw [upX_n e, hI_uI_n (by omega), hI_uL]
                exact hI0.2.2.2.1 w (by omega)
            · rw [upX_n (by omega)]
              exact hI0.2.2.2.2 a (by omega)
  refine g_iconst dX6_load_0 ⟨by decide, by decide⟩ ?_
  refine g_istore_n dX6_load_1 (by decide) rfl ?_
  exact lp W 0 X0 σ _ _ (by omega) ⟨FrR.rf σ, rfl, hX, fun w hw => absurd hw (Nat.not_lt_zero w), fun _ _ => rfl⟩
