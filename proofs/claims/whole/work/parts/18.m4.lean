/-! THE REFERENCE: a work's mark as it is tried -/
theorem cm_markedIs {D : Nat} (hD : 4 ≤ D) (σ : am_HS) (hf : σ.2.2 = mH) (hb : rgM σ) (p w : Nat) (hp : p < 6) (hw : w < 10) (hm : mkM σ p w) : am_Do lm D mX7_markedIs σ [vR (some 0), vI (p : Int), vI (w : Int)] (qV fun s => ∃ z U W, s = uT σ z U W ∧ vt (mvM σ p w) z U W) := by
  obtain ⟨d, rfl⟩ : ∃ d, D = d + 1 := ⟨D - 1, by omega⟩
  refine am_enter rfl rfl (Nat.le_of_ble_eq_true rfl) ?_
  have b2 : 0 ≤ hI σ 5 w ∧ hI σ 5 w ≤ 100000 := hb 5 w
  have b3 : 0 ≤ hI σ 9 (10 * p + w) ∧ hI σ 9 (10 * p + w) ≤ 1000 := hb 9 _
  have b4 : 0 ≤ hI σ 6 w ∧ hI σ 6 w ≤ 100 := hb 6 w
  have b5 : ∀ t, 0 ≤ (fun t => shrS (hI σ 6 w) (dayS (hI σ 11 (3 * (10 * p + w) + t)) (hI σ 5 w) (hI σ 9 (10 * p + w)))) t ∧ (fun t => shrS (hI σ 6 w) (dayS (hI σ 11 (3 * (10 * p + w) + t)) (hI σ 5 w) (hI σ 9 (10 * p + w)))) t ≤ 100 := fun t => shrS_r b4 (dayS_r (hb 11 _) b2.1 b3.1)
  have b6 : ∀ q, (fun q => hI σ 14 (6 * (10 * p + w) + q)) q ≤ 20 := fun q => (hb 14 _).2
  have b7 : ∀ q, (fun t => hI σ 13 (3 * (10 * p + w) + t)) q ≤ 20 := fun q => (hb 13 _).2
  have loop1 : hI σ 3 w = 3 → ∀ (m q : Nat), q + m = 6 → am_Go lm d 7 7 0 cX7_markedIs 22 [some (vR (some 0)), some (vI (p : Int)), some (vI (w : Int)), some (vI (10 * (p : Int) + (w : Int))), some (vL (sumS (fun q => hI σ 14 (6 * (10 * p + w) + q)) q)), none, some (vI (q : Int))] [] σ (qV fun s => ∃ z U W, s = uT σ z U W ∧ vt (mvM σ p w) z U W) := by
    intro hk m
    induction m with
    | zero =>
      intro q hq
      have hq6 : q = 6 := by omega
      subst hq6
      have c1 := sumS_r b6 6
      have c2 := cntS_r (fun q => hI σ 14 (6 * (10 * p + w) + q)) 6
      have c3 := mul_bd ⟨c1.1, c1.2⟩ (b5 0)
      unfold mkM mkdS at hm
      rw [if_pos hk] at hm
      dsimp only at c3
      refine g_iload dX7_markedIs_22 rfl ?_
      refine g_bipush dX7_markedIs_24 (by decide) ?_
      refine g_icmp_ge (tgt := 57) dX7_markedIs_26 (by decide) (fun c26 => ?_) (fun c26 => ?_)
      · refine g_aload_n dX7_markedIs_57 rfl ?_
        refine g_lload dX7_markedIs_58 rfl ?_
        refine g_aload_n dX7_markedIs_60 rfl ?_
        refine g_iload_n dX7_markedIs_61 rfl ?_
        refine g_iload_n dX7_markedIs_62 rfl ?_
        refine g_iconst dX7_markedIs_63 ⟨by decide, by decide⟩ ?_
        refine g_callvL dX7_markedIs_64 tm_7_316 rfl ⟨rfl, rfl⟩ rfl (Nat.le_of_ble_eq_true rfl) (cm_part100 (by omega) σ hf hb p w hp hw 0 (by omega)) (fun z64 s64 h64 => ?_)
        obtain ⟨rfl, e64⟩ := h64
        obtain rfl := e64.symm
        refine g_lmul dX7_markedIs_67 rfl ⟨by omega, by omega⟩ ?_
        refine g_ldc2 dX7_markedIs_68 tj_7_302 ⟨by decide, by decide⟩ ?_
        refine g_aload_n dX7_markedIs_71 rfl ?_
        refine g_iload_n dX7_markedIs_72 rfl ?_
        refine g_iload_n dX7_markedIs_73 rfl ?_
        refine g_callvI dX7_markedIs_74 tm_7_311 rfl ⟨rfl, rfl⟩ rfl (Nat.le_of_ble_eq_true rfl) (cm_peerMarks (by omega) σ hf hb p w hp hw) (fun z74 s74 h74 => ?_)
        obtain ⟨rfl, e74⟩ := h74
        obtain rfl := e74.symm
        refine g_i2l dX7_markedIs_77 ?_
        refine g_lmul dX7_markedIs_78 rfl ⟨by omega, by omega⟩ ?_
        refine g_callvV dX7_markedIs_79 tm_7_320 rfl ⟨rfl, rfl⟩ rfl (Nat.le_of_ble_eq_true rfl) (cm_tells (by omega) _ _ _ ⟨by omega, by omega⟩ ⟨by omega, by omega⟩) (fun s79 h79 => ?_)
        obtain ⟨tz, tU, tW, rfl, hvt⟩ := h79
        refine g_return dX7_markedIs_82 rfl ⟨rfl, ?_⟩
        exact ⟨tz, tU, tW, rfl, by unfold mvM mkvS; rw [if_pos hk]; exact hvt⟩
      · exfalso; omega
    | succ m ih =>
      intro q hq
      have c1 := sumS_r b6 q
      have c2 := b6 q
      dsimp only at c2
      refine g_iload dX7_markedIs_22 rfl ?_
      refine g_bipush dX7_markedIs_24 (by decide) ?_
      refine g_icmp_ge (tgt := 57) dX7_markedIs_26 (by decide) (fun c26 => ?_) (fun c26 => ?_)
      · exfalso; omega
      · refine g_lload dX7_markedIs_29 rfl ?_
        refine g_iconst dX7_markedIs_31 ⟨by decide, by decide⟩ ?_
        refine g_aload_n dX7_markedIs_32 rfl ?_
        refine g_getA dX7_markedIs_33 tf_7_49 rfl rfl (mrf hf rfl) ?_
        refine g_bipush dX7_markedIs_36 (by decide) ?_
        refine g_iload_n dX7_markedIs_38 rfl ?_
        refine g_imul dX7_markedIs_39 rfl ⟨by omega, by omega⟩ ?_
        refine g_iload dX7_markedIs_40 rfl ?_
        refine g_iadd dX7_markedIs_42 rfl ⟨by omega, by omega⟩ ?_
        refine g_ialdN (6 * (10 * p + w) + q) dX7_markedIs_43 rfl (by omega) (by omega) ?_
        refine g_max dX7_markedIs_44 tb_7_314 (Nat.le_of_ble_eq_true rfl) ?_
        refine g_i2l dX7_markedIs_47 ?_
        have b8 : -1 ≤ hI σ 14 (6 * (10 * p + w) + q) ∧ hI σ 14 (6 * (10 * p + w) + q) ≤ 20 := hb 14 _
        refine g_ladd dX7_markedIs_48 rfl ⟨by split <;> omega, by split <;> omega⟩ ?_
        refine g_lstore dX7_markedIs_49 (by decide) rfl ?_
        refine g_iinc dX7_markedIs_51 (by decide) rfl ⟨by omega, by omega⟩ rfl rfl ?_
        refine g_goto (tgt := 22) dX7_markedIs_54 (by decide) ?_
        exact ih (q + 1) (by omega)
  have loop2 : ¬ hI σ 3 w = 3 → ∀ (m q : Nat), q + m = 3 → am_Go lm d 7 7 0 cX7_markedIs 89 [some (vR (some 0)), some (vI (p : Int)), some (vI (w : Int)), some (vI (10 * (p : Int) + (w : Int))), some (vL (bestS (fun t => hI σ 13 (3 * (10 * p + w) + t)) (fun t => shrS (hI σ 6 w) (dayS (hI σ 11 (3 * (10 * p + w) + t)) (hI σ 5 w) (hI σ 9 (10 * p + w)))) q)), none, some (vI (q : Int))] [] σ (qV fun s => ∃ z U W, s = uT σ z U W ∧ vt (mvM σ p w) z U W) := by
    intro hk m
    induction m with
    | zero =>
      intro q hq
      have hq6 : q = 3 := by omega
      subst hq6
      have c1 := bestS_r b7 b5 3
      refine g_iload dX7_markedIs_89 rfl ?_
      refine g_iconst dX7_markedIs_91 ⟨by decide, by decide⟩ ?_
      refine g_icmp_ge (tgt := 143) dX7_markedIs_92 (by decide) (fun c92 => ?_) (fun c92 => ?_)
      · refine g_aload_n dX7_markedIs_143 rfl ?_
        refine g_lload dX7_markedIs_144 rfl ?_
        refine g_ldc2 dX7_markedIs_146 tj_7_302 ⟨by decide, by decide⟩ ?_
        refine g_callvV dX7_markedIs_149 tm_7_320 rfl ⟨rfl, rfl⟩ rfl (Nat.le_of_ble_eq_true rfl) (cm_tells (by omega) _ _ _ ⟨by omega, by omega⟩ ⟨by omega, by omega⟩) (fun s149 h149 => ?_)
        obtain ⟨tz, tU, tW, rfl, hvt⟩ := h149
        refine g_return dX7_markedIs_152 rfl ⟨rfl, ?_⟩
        exact ⟨tz, tU, tW, rfl, by unfold mvM mkvS; rw [if_neg hk]; exact hvt⟩
      · exfalso; omega
    | succ m ih =>
      intro q hq
      have c1 := bestS_r b7 b5 q
      have c2 := b5 q
      dsimp only at c2
      have c4 : -1 ≤ hI σ 13 (3 * (10 * p + w) + q) ∧ hI σ 13 (3 * (10 * p + w) + q) ≤ 20 := hb 13 _
      have ih := ih (q + 1) (by omega)
      unfold bestS at ih
      try dsimp only at ih
      refine g_iload dX7_markedIs_89 rfl ?_
      refine g_iconst dX7_markedIs_91 ⟨by decide, by decide⟩ ?_
      refine g_icmp_ge (tgt := 143) dX7_markedIs_92 (by decide) (fun c92 => ?_) (fun c92 => ?_)
      · exfalso; omega
      · refine g_aload_n dX7_markedIs_95 rfl ?_
        refine g_getA dX7_markedIs_96 tf_7_46 rfl rfl (mrf hf rfl) ?_
        refine g_iconst dX7_markedIs_99 ⟨by decide, by decide⟩ ?_
        refine g_iload_n dX7_markedIs_100 rfl ?_
        refine g_imul dX7_markedIs_101 rfl ⟨by omega, by omega⟩ ?_
        refine g_iload dX7_markedIs_102 rfl ?_
        refine g_iadd dX7_markedIs_104 rfl ⟨by omega, by omega⟩ ?_
        refine g_ialdN (3 * (10 * p + w) + q) dX7_markedIs_105 rfl (by omega) (by omega) ?_
        refine g_if_lt (tgt := 137) dX7_markedIs_106 (by decide) (fun c106 => ?_) (fun c106 => ?_)
        · refine g_iinc dX7_markedIs_137 (by decide) rfl ⟨by omega, by omega⟩ rfl rfl ?_
          refine g_goto (tgt := 89) dX7_markedIs_140 (by decide) ?_
          first | (rw [if_pos (by omega)] at ih; exact ih) | (rw [if_neg (by omega)] at ih; exact ih)
        · refine g_lload dX7_markedIs_109 rfl ?_
          refine g_aload_n dX7_markedIs_111 rfl ?_
          refine g_getA dX7_markedIs_112 tf_7_46 rfl rfl (mrf hf rfl) ?_
          refine g_iconst dX7_markedIs_115 ⟨by decide, by decide⟩ ?_
          refine g_iload_n dX7_markedIs_116 rfl ?_
          refine g_imul dX7_markedIs_117 rfl ⟨by omega, by omega⟩ ?_
          refine g_iload dX7_markedIs_118 rfl ?_
          refine g_iadd dX7_markedIs_120 rfl ⟨by omega, by omega⟩ ?_
          refine g_ialdN (3 * (10 * p + w) + q) dX7_markedIs_121 rfl (by omega) (by omega) ?_
          refine g_i2l dX7_markedIs_122 ?_
          refine g_aload_n dX7_markedIs_123 rfl ?_
          refine g_iload_n dX7_markedIs_124 rfl ?_
          refine g_iload_n dX7_markedIs_125 rfl ?_
          refine g_iload dX7_markedIs_126 rfl ?_
          refine g_callvL dX7_markedIs_128 tm_7_316 rfl ⟨rfl, rfl⟩ rfl (Nat.le_of_ble_eq_true rfl) (cm_part100 (by omega) σ hf hb p w hp hw q (by omega)) (fun z128 s128 h128 => ?_)
          obtain ⟨rfl, e128⟩ := h128
          obtain rfl := e128.symm
          have c5 := mul_bd ⟨by omega, c4.2⟩ c2
          refine g_lmul dX7_markedIs_131 rfl ⟨by omega, by omega⟩ ?_
          refine g_maxL dX7_markedIs_132 tb_7_307 (Nat.le_of_ble_eq_true rfl) ?_
          refine g_lstore dX7_markedIs_135 (by decide) rfl ?_
          refine g_iinc dX7_markedIs_137 (by decide) rfl ⟨by omega, by omega⟩ rfl rfl ?_
          refine g_goto (tgt := 89) dX7_markedIs_140 (by decide) ?_
          first | (rw [if_pos (by omega)] at ih; exact ih) | (rw [if_neg (by omega)] at ih; exact ih)
  refine g_iload_n dX7_markedIs_0 rfl ?_
  refine g_iload_n dX7_markedIs_1 rfl ?_
  refine g_callsI dX7_markedIs_2 tm_7_159 rfl ⟨Nat.le_of_ble_eq_true rfl, rfl, rfl⟩ (Nat.le_of_ble_eq_true rfl) (cm_spot (by omega) σ _ _ ⟨by omega, by omega⟩ ⟨by omega, by omega⟩) (fun z2 s2 h2 => ?_)
  obtain ⟨rfl, e2⟩ := h2
  obtain rfl := e2.symm
  refine g_istore_n dX7_markedIs_5 (by decide) rfl ?_
  refine g_aload_n dX7_markedIs_6 rfl ?_
  refine g_getA dX7_markedIs_7 tf_7_16 rfl rfl (mrf hf rfl) ?_
  refine g_iload_n dX7_markedIs_10 rfl ?_
  refine g_ialdN (w) dX7_markedIs_11 rfl (by omega) (by omega) ?_
  refine g_iconst dX7_markedIs_12 ⟨by decide, by decide⟩ ?_
  refine g_icmp_ne (tgt := 83) dX7_markedIs_13 (by decide) (fun c13 => ?_) (fun c13 => ?_)
  · refine g_lconst0 dX7_markedIs_83 ?_
    refine g_lstore dX7_markedIs_84 (by decide) rfl ?_
    refine g_iconst dX7_markedIs_86 ⟨by decide, by decide⟩ ?_
    refine g_istore dX7_markedIs_87 (by decide) rfl ?_
    exact loop2 (by omega) 3 0 rfl
  · refine g_lconst0 dX7_markedIs_16 ?_
    refine g_lstore dX7_markedIs_17 (by decide) rfl ?_
    refine g_iconst dX7_markedIs_19 ⟨by decide, by decide⟩ ?_
    refine g_istore dX7_markedIs_20 (by decide) rfl ?_
    exact loop1 (by omega) 6 0 rfl

theorem cm_forgets {D : Nat} (hD : 1 ≤ D) (σ : am_HS) (hf : σ.2.2 = mH) : am_Do lm D mX7_forgets σ [vR (some 0)] (qV fun s => s = fillI σ 33 12 (-1)) := by
  obtain ⟨d, rfl⟩ : ∃ d, D = d + 1 := ⟨D - 1, by omega⟩
  refine am_enter rfl rfl (Nat.le_of_ble_eq_true rfl) ?_
  have loop : ∀ (m q : Nat), q + m = 12 → am_Go lm d 7 2 0 cX7_forgets 2 [some (vR (some 0)), some (vI (q : Int))] [] (fillI σ 33 q (-1)) (qV fun s => s = fillI σ 33 12 (-1)) := by
    intro m
    induction m with
    | zero =>
      intro q hq
      have hq6 : q = 12 := by omega
      subst hq6
      refine g_iload_n dX7_forgets_2 rfl ?_
      refine g_bipush dX7_forgets_3 (by decide) ?_
      refine g_icmp_ge (tgt := 21) dX7_forgets_5 (by decide) (fun c5 => ?_) (fun c5 => ?_)
      · refine g_return dX7_forgets_21 rfl ⟨rfl, ?_⟩
        rfl
      · exfalso; omega
    | succ m ih =>
      intro q hq
      refine g_iload_n dX7_forgets_2 rfl ?_
      refine g_bipush dX7_forgets_3 (by decide) ?_
      refine g_icmp_ge (tgt := 21) dX7_forgets_5 (by decide) (fun c5 => ?_) (fun c5 => ?_)
      · exfalso; omega
      · refine g_aload_n dX7_forgets_8 rfl ?_
        refine g_getA dX7_forgets_9 tf_7_108 rfl rfl (mrf hf rfl) ?_
        refine g_iload_n dX7_forgets_12 rfl ?_
        refine g_iconst dX7_forgets_13 ⟨by decide, by decide⟩ ?_
        refine g_iastN (q) dX7_forgets_14 rfl (by omega) (by omega) ?_
        refine g_iinc dX7_forgets_15 (by decide) rfl ⟨by omega, by omega⟩ rfl rfl ?_
        refine g_goto (tgt := 2) dX7_forgets_18 (by decide) ?_
        rw [fillI_s]
        exact ih (q + 1) (by omega)
  refine g_iconst dX7_forgets_0 ⟨by decide, by decide⟩ ?_
  refine g_istore_n dX7_forgets_1 (by decide) rfl ?_
  have := loop 12 0 rfl
  rw [fillI_0] at this
  exact this

theorem cm_begins {D : Nat} (hD : 2 ≤ D) (σ : am_HS) (hf : σ.2.2 = mH) (p : Int) : am_Do lm D mX7_begins σ [vR (some 0), vI p] (qV fun s => s = fillI (fillI (uI σ 0 51 p) 32 10 (-1)) 33 12 (-1)) := by
  obtain ⟨d, rfl⟩ : ∃ d, D = d + 1 := ⟨D - 1, by omega⟩
  refine am_enter rfl rfl (Nat.le_of_ble_eq_true rfl) ?_
  have loop : ∀ (m q : Nat), q + m = 10 → am_Go lm d 7 3 0 cX7_begins 7 [some (vR (some 0)), some (vI p), some (vI (q : Int))] [] (fillI (uI σ 0 51 p) 32 q (-1)) (qV fun s => s = fillI (fillI (uI σ 0 51 p) 32 10 (-1)) 33 12 (-1)) := by
    intro m
    induction m with
    | zero =>
      intro q hq
      have hq6 : q = 10 := by omega
      subst hq6
      refine g_iload_n dX7_begins_7 rfl ?_
      refine g_bipush dX7_begins_8 (by decide) ?_
      refine g_icmp_ge (tgt := 26) dX7_begins_10 (by decide) (fun c10 => ?_) (fun c10 => ?_)
      · refine g_aload_n dX7_begins_26 rfl ?_
        refine g_callvV dX7_begins_27 tm_7_330 rfl ⟨rfl, rfl⟩ rfl (Nat.le_of_ble_eq_true rfl) (cm_forgets (by omega) _ hf) (fun s27 h27 => ?_)
        obtain rfl := h27
        refine g_return dX7_begins_30 rfl ⟨rfl, ?_⟩
        rfl
      · exfalso; omega
    | succ m ih =>
      intro q hq
      refine g_iload_n dX7_begins_7 rfl ?_
      refine g_bipush dX7_begins_8 (by decide) ?_
      refine g_icmp_ge (tgt := 26) dX7_begins_10 (by decide) (fun c10 => ?_) (fun c10 => ?_)
      · exfalso; omega
      · refine g_aload_n dX7_begins_13 rfl ?_
        refine g_getA dX7_begins_14 tf_7_105 rfl rfl (mrf hf rfl) ?_
        refine g_iload_n dX7_begins_17 rfl ?_
        refine g_iconst dX7_begins_18 ⟨by decide, by decide⟩ ?_
        refine g_iastN (q) dX7_begins_19 rfl (by omega) (by omega) ?_
        refine g_iinc dX7_begins_20 (by decide) rfl ⟨by omega, by omega⟩ rfl rfl ?_
        refine g_goto (tgt := 7) dX7_begins_23 (by decide) ?_
        rw [fillI_s]
        exact ih (q + 1) (by omega)
  refine g_aload_n dX7_begins_0 rfl ?_
  refine g_iload_n dX7_begins_1 rfl ?_
  refine g_putI dX7_begins_2 tf_7_327 rfl rfl rfl ?_
  refine g_iconst dX7_begins_5 ⟨by decide, by decide⟩ ?_
  refine g_istore_n dX7_begins_6 (by decide) rfl ?_
  have := loop 10 0 rfl
  rw [fillI_0] at this
  exact this

theorem cm_workIs {D : Nat} (hD : 5 ≤ D) (σ : am_HS) (hf : σ.2.2 = mH) (hb : rgM σ) (p w : Nat) (hp : p < 6) (hw : w < 10) (hpu : hI σ 0 51 = p) (htk : -1 ≤ hI σ 32 w ∧ hI σ 32 w ≤ 20) : am_Do lm D mX7_workIs σ [vR (some 0), vI (w : Int)] (qV fun s => ∃ z U W, s = uT σ z U W ∧ vt (mtM σ p w (hI σ 32 w)) z U W) := by
  have b1 : 0 ≤ hI σ 15 ((10 * p + w)) ∧ hI σ 15 ((10 * p + w)) ≤ 1 := hb 15 _
  obtain ⟨d, rfl⟩ : ∃ d, D = d + 1 := ⟨D - 1, by omega⟩
  refine am_enter rfl rfl (Nat.le_of_ble_eq_true rfl) ?_
  refine g_aload_n dX7_workIs_0 rfl ?_
  refine g_getA dX7_workIs_1 tf_7_52 rfl rfl (mrf hf rfl) ?_
  refine g_aload_n dX7_workIs_4 rfl ?_
  refine g_getI dX7_workIs_5 tf_7_327 rfl rfl ?_
  rw [hpu]
  refine g_iload_n dX7_workIs_8 rfl ?_
  refine g_callsI dX7_workIs_9 tm_7_159 rfl ⟨Nat.le_of_ble_eq_true rfl, rfl, rfl⟩ (Nat.le_of_ble_eq_true rfl) (cm_spot (by omega) σ _ _ ⟨by omega, by omega⟩ ⟨by omega, by omega⟩) (fun z9 s9 h9 => ?_)
  obtain ⟨rfl, e9⟩ := h9
  obtain rfl := e9.symm
  refine g_zaldN ((10 * p + w)) dX7_workIs_12 rfl (by omega) (by omega) ?_
  refine g_if_eq (tgt := 22) dX7_workIs_13 (by decide) (fun c13 => ?_) (fun c13 => ?_)
  · refine g_aload_n dX7_workIs_22 rfl ?_
    refine g_aload_n dX7_workIs_23 rfl ?_
    refine g_getI dX7_workIs_24 tf_7_327 rfl rfl ?_
    rw [hpu]
    refine g_iload_n dX7_workIs_27 rfl ?_
    refine g_callvI dX7_workIs_28 tm_7_324 rfl ⟨rfl, rfl⟩ rfl (Nat.le_of_ble_eq_true rfl) (cm_isMarked (by omega) σ hf hb p w hp hw) (fun z28 s28 h28 => ?_)
    obtain ⟨h28, e28⟩ := h28
    obtain rfl := e28.symm
    refine g_if_eq (tgt := 46) dX7_workIs_31 (by decide) (fun c31 => ?_) (fun c31 => ?_)
    · refine g_aload_n dX7_workIs_46 rfl ?_
      refine g_iconst dX7_workIs_47 ⟨by decide, by decide⟩ ?_
      refine g_aload_n dX7_workIs_48 rfl ?_
      refine g_getA dX7_workIs_49 tf_7_105 rfl rfl (mrf hf rfl) ?_
      refine g_iload_n dX7_workIs_52 rfl ?_
      refine g_ialdN (w) dX7_workIs_53 rfl (by omega) (by omega) ?_
      refine g_max dX7_workIs_54 tb_7_314 (Nat.le_of_ble_eq_true rfl) ?_
      refine g_i2l dX7_workIs_57 ?_
      refine g_lconst1 dX7_workIs_58 ?_
      refine g_callvV dX7_workIs_59 tm_7_320 rfl ⟨rfl, rfl⟩ rfl (Nat.le_of_ble_eq_true rfl) (cm_tells (by omega) _ _ _ ⟨by split <;> omega, by split <;> omega⟩ ⟨by omega, by omega⟩) (fun s59 h59 => ?_)
      obtain ⟨tz, tU, tW, rfl, hvt⟩ := h59
      refine g_return dX7_workIs_62 rfl ⟨rfl, ?_⟩
      refine ⟨tz, tU, tW, rfl, ?_⟩
      unfold mtM
      rw [if_neg (by omega)]
      rcases h28 with h | h
      · rw [if_pos h.2]
        first | exact hvt | (exfalso; omega)
      · rw [if_neg h.2]
        first | (exfalso; omega) | exact nrm_1 (x := if 0 < hI σ 32 w then hI σ 32 w else 0) (by split <;> omega) ▸ hvt
    · refine g_aload_n dX7_workIs_34 rfl ?_
      refine g_aload_n dX7_workIs_35 rfl ?_
      refine g_getI dX7_workIs_36 tf_7_327 rfl rfl ?_
      rw [hpu]
      refine g_iload_n dX7_workIs_39 rfl ?_
      refine g_callvV dX7_workIs_40 tm_7_333 rfl ⟨rfl, rfl⟩ rfl (Nat.le_of_ble_eq_true rfl) (cm_markedIs (by omega) σ hf hb p w hp hw (by rcases h28 with h | h; exact h.2; omega)) (fun s40 h40 => ?_)
      obtain ⟨tz, tU, tW, rfl, hvt⟩ := h40
      refine g_goto (tgt := 62) dX7_workIs_43 (by decide) ?_
      refine g_return dX7_workIs_62 rfl ⟨rfl, ?_⟩
      refine ⟨tz, tU, tW, rfl, ?_⟩
      unfold mtM
      rw [if_neg (by omega)]
      rcases h28 with h | h
      · rw [if_pos h.2]
        first | exact hvt | (exfalso; omega)
      · rw [if_neg h.2]
        first | (exfalso; omega) | exact nrm_1 (x := if 0 < hI σ 32 w then hI σ 32 w else 0) (by split <;> omega) ▸ hvt
  · refine g_aload_n dX7_workIs_16 rfl ?_
    refine g_iconst dX7_workIs_17 ⟨by decide, by decide⟩ ?_
    refine g_putI dX7_workIs_18 tf_7_252 rfl rfl rfl ?_
    refine g_return dX7_workIs_21 rfl ⟨rfl, ?_⟩
    refine ⟨0, _, _, uT_out σ 0, ?_⟩
    unfold mtM
    rw [if_pos (by omega)]
    rfl

