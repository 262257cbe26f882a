/-! THE REFERENCE: marks -/
theorem cm_days {D : Nat} (hD : 2 ≤ D) (σ : am_HS) (hf : σ.2.2 = mH) (hb : rgM σ) (p w : Nat) (hp : p < 6) (hw : w < 10) (t : Nat) (ht : t < 3) : am_Do lm D mX7_days σ [vR (some 0), vI (p : Int), vI (w : Int), vI (t : Int)] (qI fun z s => z = dayS (hI σ 11 (3 * (10 * p + w) + t)) (hI σ 5 w) (hI σ 9 (10 * p + w)) ∧ s = σ) := by
  have b1 : 0 ≤ hI σ 11 (3 * (10 * p + w) + t) ∧ hI σ 11 (3 * (10 * p + w) + t) ≤ 100000 := hb 11 _
  have b2 : 0 ≤ hI σ 5 (w) ∧ hI σ 5 (w) ≤ 100000 := hb 5 _
  have b3 : 0 ≤ hI σ 9 ((10 * p + w)) ∧ hI σ 9 ((10 * p + w)) ≤ 1000 := hb 9 _
  obtain ⟨d, rfl⟩ : ∃ d, D = d + 1 := ⟨D - 1, by omega⟩
  refine am_enter rfl rfl (Nat.le_of_ble_eq_true rfl) ?_
  refine g_aload_n dX7_days_0 rfl ?_
  refine g_getA dX7_days_1 tf_7_40 rfl rfl (mrf hf rfl) ?_
  refine g_iconst dX7_days_4 ⟨by decide, by decide⟩ ?_
  refine g_iload_n dX7_days_5 rfl ?_
  refine g_iload_n dX7_days_6 rfl ?_
  refine g_callsI dX7_days_7 tm_7_159 rfl ⟨Nat.le_of_ble_eq_true rfl, rfl, rfl⟩ (Nat.le_of_ble_eq_true rfl) (cm_spot (by omega) σ _ _ ⟨by omega, by omega⟩ ⟨by omega, by omega⟩) (fun z7 s7 h7 => ?_)
  obtain ⟨rfl, e7⟩ := h7
  obtain rfl := e7.symm
  refine g_imul dX7_days_10 rfl ⟨by omega, by omega⟩ ?_
  refine g_iload_n dX7_days_11 rfl ?_
  refine g_iadd dX7_days_12 rfl ⟨by omega, by omega⟩ ?_
  refine g_ialdN (3 * (10 * p + w) + t) dX7_days_13 rfl (by omega) (by omega) ?_
  refine g_aload_n dX7_days_14 rfl ?_
  refine g_getA dX7_days_15 tf_7_22 rfl rfl (mrf hf rfl) ?_
  refine g_iload_n dX7_days_18 rfl ?_
  refine g_ialdN (w) dX7_days_19 rfl (by omega) (by omega) ?_
  refine g_isub dX7_days_20 rfl ⟨by omega, by omega⟩ ?_
  refine g_aload_n dX7_days_21 rfl ?_
  refine g_getA dX7_days_22 tf_7_34 rfl rfl (mrf hf rfl) ?_
  refine g_iload_n dX7_days_25 rfl ?_
  refine g_iload_n dX7_days_26 rfl ?_
  refine g_callsI dX7_days_27 tm_7_159 rfl ⟨Nat.le_of_ble_eq_true rfl, rfl, rfl⟩ (Nat.le_of_ble_eq_true rfl) (cm_spot (by omega) σ _ _ ⟨by omega, by omega⟩ ⟨by omega, by omega⟩) (fun z27 s27 h27 => ?_)
  obtain ⟨rfl, e27⟩ := h27
  obtain rfl := e27.symm
  refine g_ialdN ((10 * p + w)) dX7_days_30 rfl (by omega) (by omega) ?_
  refine g_isub dX7_days_31 rfl ⟨by omega, by omega⟩ ?_
  refine g_istore dX7_days_32 (by decide) rfl ?_
  refine g_iload dX7_days_34 rfl ?_
  refine g_if_gt (tgt := 43) dX7_days_36 (by decide) (fun c36 => ?_) (fun c36 => ?_)
  · refine g_iload dX7_days_43 rfl ?_
    refine g_bipush dX7_days_45 (by decide) ?_
    refine g_iadd dX7_days_47 rfl ⟨by omega, by omega⟩ ?_
    refine g_bipush dX7_days_48 (by decide) ?_
    refine g_idiv dX7_days_50 (by omega) (Int.tdiv_eq_ediv_of_nonneg (by omega)) ⟨by omega, by omega⟩ ?_
    refine g_ireturn dX7_days_51 (Or.inl rfl) ⟨_, rfl, ?_⟩
    exact ⟨by unfold dayS; split <;> omega, rfl⟩
  · refine g_iconst dX7_days_39 ⟨by decide, by decide⟩ ?_
    refine g_goto (tgt := 51) dX7_days_40 (by decide) ?_
    refine g_ireturn dX7_days_51 (Or.inl rfl) ⟨_, rfl, ?_⟩
    exact ⟨by unfold dayS; split <;> omega, rfl⟩

theorem cm_part100 {D : Nat} (hD : 3 ≤ D) (σ : am_HS) (hf : σ.2.2 = mH) (hb : rgM σ) (p w : Nat) (hp : p < 6) (hw : w < 10) (t : Nat) (ht : t < 3) : am_Do lm D mX7_part100 σ [vR (some 0), vI (p : Int), vI (w : Int), vI (t : Int)] (qL fun z s => z = shrS (hI σ 6 w) (dayS (hI σ 11 (3 * (10 * p + w) + t)) (hI σ 5 w) (hI σ 9 (10 * p + w))) ∧ s = σ) := by
  have b1 : 0 ≤ hI σ 11 (3 * (10 * p + w) + t) ∧ hI σ 11 (3 * (10 * p + w) + t) ≤ 100000 := hb 11 _
  have b2 : 0 ≤ hI σ 5 (w) ∧ hI σ 5 (w) ≤ 100000 := hb 5 _
  have b3 : 0 ≤ hI σ 9 ((10 * p + w)) ∧ hI σ 9 ((10 * p + w)) ≤ 1000 := hb 9 _
  have b4 : 0 ≤ hI σ 6 (w) ∧ hI σ 6 (w) ≤ 100 := hb 6 _
  have b5 := dayS_r b1 b2.1 b3.1
  have b6 := mul_bd b4 b5
  obtain ⟨d, rfl⟩ : ∃ d, D = d + 1 := ⟨D - 1, by omega⟩
  refine am_enter rfl rfl (Nat.le_of_ble_eq_true rfl) ?_
  refine g_lconst0 dX7_part100_0 ?_
  refine g_ldc2 dX7_part100_1 tj_7_302 ⟨by decide, by decide⟩ ?_
  refine g_aload_n dX7_part100_4 rfl ?_
  refine g_getA dX7_part100_5 tf_7_25 rfl rfl (mrf hf rfl) ?_
  refine g_iload_n dX7_part100_8 rfl ?_
  refine g_ialdN (w) dX7_part100_9 rfl (by omega) (by omega) ?_
  refine g_i2l dX7_part100_10 ?_
  refine g_aload_n dX7_part100_11 rfl ?_
  refine g_iload_n dX7_part100_12 rfl ?_
  refine g_iload_n dX7_part100_13 rfl ?_
  refine g_iload_n dX7_part100_14 rfl ?_
  refine g_callvI dX7_part100_15 tm_7_304 rfl ⟨rfl, rfl⟩ rfl (Nat.le_of_ble_eq_true rfl) (cm_days (by omega) σ hf hb p w hp hw t ht) (fun z15 s15 h15 => ?_)
  obtain ⟨rfl, e15⟩ := h15
  obtain rfl := e15.symm
  refine g_i2l dX7_part100_18 ?_
  refine g_lmul dX7_part100_19 rfl ⟨by omega, by omega⟩ ?_
  refine g_lsub dX7_part100_20 rfl ⟨by omega, by omega⟩ ?_
  refine g_maxL dX7_part100_21 tb_7_307 (Nat.le_of_ble_eq_true rfl) ?_
  refine g_lreturn dX7_part100_24 rfl ⟨_, rfl, ?_⟩
  exact ⟨rfl, rfl⟩

theorem cm_peerMarks {D : Nat} (hD : 2 ≤ D) (σ : am_HS) (hf : σ.2.2 = mH) (hb : rgM σ) (p w : Nat) (hp : p < 6) (hw : w < 10) : am_Do lm D mX7_peerMarks σ [vR (some 0), vI (p : Int), vI (w : Int)] (qI fun z s => z = cntS (fun q => hI σ 14 (6 * (10 * p + w) + q)) 6 ∧ s = σ) := by
  obtain ⟨d, rfl⟩ : ∃ d, D = d + 1 := ⟨D - 1, by omega⟩
  refine am_enter rfl rfl (Nat.le_of_ble_eq_true rfl) ?_
  have loop : ∀ (m q : Nat), q + m = 6 → am_Go lm d 7 5 1 cX7_peerMarks 5 [some (vR (some 0)), some (vI (p : Int)), some (vI (w : Int)), some (vI (cntS (fun q => hI σ 14 (6 * (10 * p + w) + q)) q)), some (vI (q : Int))] [] σ (qI fun z s => z = cntS (fun q => hI σ 14 (6 * (10 * p + w) + q)) 6 ∧ s = σ) := by
    intro m
    induction m with
    | zero =>
      intro q hq
      have hq6 : q = 6 := by omega
      subst hq6
      refine g_iload dX7_peerMarks_5 rfl ?_
      refine g_bipush dX7_peerMarks_7 (by decide) ?_
      refine g_icmp_ge (tgt := 45) dX7_peerMarks_9 (by decide) (fun c9 => ?_) (fun c9 => ?_)
      · refine g_iload_n dX7_peerMarks_45 rfl ?_
        refine g_ireturn dX7_peerMarks_46 (Or.inl rfl) ⟨_, rfl, ?_⟩
        exact ⟨rfl, rfl⟩
      · exfalso; omega
    | succ m ih =>
      intro q hq
      have b1 := cntS_r (fun q => hI σ 14 (6 * (10 * p + w) + q)) q
      refine g_iload dX7_peerMarks_5 rfl ?_
      refine g_bipush dX7_peerMarks_7 (by decide) ?_
      refine g_icmp_ge (tgt := 45) dX7_peerMarks_9 (by decide) (fun c9 => ?_) (fun c9 => ?_)
      · exfalso; omega
      · refine g_iload_n dX7_peerMarks_12 rfl ?_
        refine g_aload_n dX7_peerMarks_13 rfl ?_
        refine g_getA dX7_peerMarks_14 tf_7_49 rfl rfl (mrf hf rfl) ?_
        refine g_bipush dX7_peerMarks_17 (by decide) ?_
        refine g_iload_n dX7_peerMarks_19 rfl ?_
        refine g_iload_n dX7_peerMarks_20 rfl ?_
        refine g_callsI dX7_peerMarks_21 tm_7_159 rfl ⟨Nat.le_of_ble_eq_true rfl, rfl, rfl⟩ (Nat.le_of_ble_eq_true rfl) (cm_spot (by omega) σ _ _ ⟨by omega, by omega⟩ ⟨by omega, by omega⟩) (fun z21 s21 h21 => ?_)
        obtain ⟨rfl, e21⟩ := h21
        obtain rfl := e21.symm
        refine g_imul dX7_peerMarks_24 rfl ⟨by omega, by omega⟩ ?_
        refine g_iload dX7_peerMarks_25 rfl ?_
        refine g_iadd dX7_peerMarks_27 rfl ⟨by omega, by omega⟩ ?_
        refine g_ialdN (6 * (10 * p + w) + q) dX7_peerMarks_28 rfl (by omega) (by omega) ?_
        refine g_if_lt (tgt := 36) dX7_peerMarks_29 (by decide) (fun c29 => ?_) (fun c29 => ?_)
        · refine g_iconst dX7_peerMarks_36 ⟨by decide, by decide⟩ ?_
          refine g_iadd dX7_peerMarks_37 rfl ⟨by omega, by omega⟩ ?_
          refine g_istore_n dX7_peerMarks_38 (by decide) rfl ?_
          refine g_iinc dX7_peerMarks_39 (by decide) rfl ⟨by omega, by omega⟩ rfl rfl ?_
          refine g_goto (tgt := 5) dX7_peerMarks_42 (by decide) ?_
          have := ih (q + 1) (by omega)
          unfold cntS at this
          first | (rw [if_pos (by omega)] at this; exact this) | (rw [if_neg (by omega)] at this; exact this)
        · refine g_iconst dX7_peerMarks_32 ⟨by decide, by decide⟩ ?_
          refine g_goto (tgt := 37) dX7_peerMarks_33 (by decide) ?_
          refine g_iadd dX7_peerMarks_37 rfl ⟨by omega, by omega⟩ ?_
          refine g_istore_n dX7_peerMarks_38 (by decide) rfl ?_
          refine g_iinc dX7_peerMarks_39 (by decide) rfl ⟨by omega, by omega⟩ rfl rfl ?_
          refine g_goto (tgt := 5) dX7_peerMarks_42 (by decide) ?_
          have := ih (q + 1) (by omega)
          unfold cntS at this
          first | (rw [if_pos (by omega)] at this; exact this) | (rw [if_neg (by omega)] at this; exact this)
  refine g_iconst dX7_peerMarks_0 ⟨by decide, by decide⟩ ?_
  refine g_istore_n dX7_peerMarks_1 (by decide) rfl ?_
  refine g_iconst dX7_peerMarks_2 ⟨by decide, by decide⟩ ?_
  refine g_istore dX7_peerMarks_3 (by decide) rfl ?_
  exact loop 6 0 rfl

theorem cm_isMarked {D : Nat} (hD : 3 ≤ D) (σ : am_HS) (hf : σ.2.2 = mH) (hb : rgM σ) (p w : Nat) (hp : p < 6) (hw : w < 10) : am_Do lm D mX7_isMarked σ [vR (some 0), vI (p : Int), vI (w : Int)] (qI fun z s => (z = 1 ∧ mkM σ p w ∨ z = 0 ∧ ¬ mkM σ p w) ∧ s = σ) := by
  obtain ⟨d, rfl⟩ : ∃ d, D = d + 1 := ⟨D - 1, by omega⟩
  refine am_enter rfl rfl (Nat.le_of_ble_eq_true rfl) ?_
  refine g_aload_n dX7_isMarked_0 rfl ?_
  refine g_getA dX7_isMarked_1 tf_7_16 rfl rfl (mrf hf rfl) ?_
  refine g_iload_n dX7_isMarked_4 rfl ?_
  refine g_ialdN (w) dX7_isMarked_5 rfl (by omega) (by omega) ?_
  refine g_iconst dX7_isMarked_6 ⟨by decide, by decide⟩ ?_
  refine g_icmp_ne (tgt := 25) dX7_isMarked_7 (by decide) (fun c7 => ?_) (fun c7 => ?_)
  · refine g_aload_n dX7_isMarked_25 rfl ?_
    refine g_getA dX7_isMarked_26 tf_7_46 rfl rfl (mrf hf rfl) ?_
    refine g_iconst dX7_isMarked_29 ⟨by decide, by decide⟩ ?_
    refine g_iload_n dX7_isMarked_30 rfl ?_
    refine g_iload_n dX7_isMarked_31 rfl ?_
    refine g_callsI dX7_isMarked_32 tm_7_159 rfl ⟨Nat.le_of_ble_eq_true rfl, rfl, rfl⟩ (Nat.le_of_ble_eq_true rfl) (cm_spot (by omega) σ _ _ ⟨by omega, by omega⟩ ⟨by omega, by omega⟩) (fun z32 s32 h32 => ?_)
    obtain ⟨rfl, e32⟩ := h32
    obtain rfl := e32.symm
    refine g_imul dX7_isMarked_35 rfl ⟨by omega, by omega⟩ ?_
    refine g_ialdN (3 * (10 * p + w)) dX7_isMarked_36 rfl (by omega) (by omega) ?_
    refine g_if_lt (tgt := 44) dX7_isMarked_37 (by decide) (fun c37 => ?_) (fun c37 => ?_)
    · refine g_iconst dX7_isMarked_44 ⟨by decide, by decide⟩ ?_
      refine g_ireturn dX7_isMarked_45 (Or.inr ⟨rfl, by omega⟩) ⟨_, rfl, ?_⟩
      refine ⟨?_, rfl⟩
      unfold mkM mkdS
      first | rw [if_pos (by omega)] | rw [if_neg (by omega)]
      try dsimp only [Nat.add_zero]
      first | exact Or.inl ⟨rfl, by first | assumption | omega⟩ | exact Or.inr ⟨rfl, by first | assumption | omega⟩
    · refine g_iconst dX7_isMarked_40 ⟨by decide, by decide⟩ ?_
      refine g_goto (tgt := 45) dX7_isMarked_41 (by decide) ?_
      refine g_ireturn dX7_isMarked_45 (Or.inr ⟨rfl, by omega⟩) ⟨_, rfl, ?_⟩
      refine ⟨?_, rfl⟩
      unfold mkM mkdS
      first | rw [if_pos (by omega)] | rw [if_neg (by omega)]
      try dsimp only [Nat.add_zero]
      first | exact Or.inl ⟨rfl, by first | assumption | omega⟩ | exact Or.inr ⟨rfl, by first | assumption | omega⟩
  · refine g_aload_n dX7_isMarked_10 rfl ?_
    refine g_iload_n dX7_isMarked_11 rfl ?_
    refine g_iload_n dX7_isMarked_12 rfl ?_
    refine g_callvI dX7_isMarked_13 tm_7_311 rfl ⟨rfl, rfl⟩ rfl (Nat.le_of_ble_eq_true rfl) (cm_peerMarks (by omega) σ hf hb p w hp hw) (fun z13 s13 h13 => ?_)
    obtain ⟨rfl, e13⟩ := h13
    obtain rfl := e13.symm
    refine g_if_le (tgt := 23) dX7_isMarked_16 (by decide) (fun c16 => ?_) (fun c16 => ?_)
    · refine g_iconst dX7_isMarked_23 ⟨by decide, by decide⟩ ?_
      refine g_ireturn dX7_isMarked_24 (Or.inr ⟨rfl, by omega⟩) ⟨_, rfl, ?_⟩
      refine ⟨?_, rfl⟩
      unfold mkM mkdS
      first | rw [if_pos (by omega)] | rw [if_neg (by omega)]
      try dsimp only [Nat.add_zero]
      first | exact Or.inl ⟨rfl, by first | assumption | omega⟩ | exact Or.inr ⟨rfl, by first | assumption | omega⟩
    · refine g_iconst dX7_isMarked_19 ⟨by decide, by decide⟩ ?_
      refine g_goto (tgt := 24) dX7_isMarked_20 (by decide) ?_
      refine g_ireturn dX7_isMarked_24 (Or.inr ⟨rfl, by omega⟩) ⟨_, rfl, ?_⟩
      refine ⟨?_, rfl⟩
      unfold mkM mkdS
      first | rw [if_pos (by omega)] | rw [if_neg (by omega)]
      try dsimp only [Nat.add_zero]
      first | exact Or.inl ⟨rfl, by first | assumption | omega⟩ | exact Or.inr ⟨rfl, by first | assumption | omega⟩

theorem cm_isOpenEnded {D : Nat} (hD : 4 ≤ D) (σ : am_HS) (hf : σ.2.2 = mH) (hb : rgM σ) (p w : Nat) (hp : p < 6) (hw : w < 10) : am_Do lm D mX7_isOpenEnded σ [vR (some 0), vI (p : Int), vI (w : Int)] (qI fun z s => (z = 1 ∧ hI σ 15 (10 * p + w) ≠ 1 ∧ ¬ mkM σ p w ∨ z = 0 ∧ ¬ (hI σ 15 (10 * p + w) ≠ 1 ∧ ¬ mkM σ p w)) ∧ s = σ) := by
  have b1 : 0 ≤ hI σ 15 ((10 * p + w)) ∧ hI σ 15 ((10 * p + w)) ≤ 1 := hb 15 _
  obtain ⟨d, rfl⟩ : ∃ d, D = d + 1 := ⟨D - 1, by omega⟩
  refine am_enter rfl rfl (Nat.le_of_ble_eq_true rfl) ?_
  refine g_aload_n dX7_isOpenEnded_0 rfl ?_
  refine g_getA dX7_isOpenEnded_1 tf_7_52 rfl rfl (mrf hf rfl) ?_
  refine g_iload_n dX7_isOpenEnded_4 rfl ?_
  refine g_iload_n dX7_isOpenEnded_5 rfl ?_
  refine g_callsI dX7_isOpenEnded_6 tm_7_159 rfl ⟨Nat.le_of_ble_eq_true rfl, rfl, rfl⟩ (Nat.le_of_ble_eq_true rfl) (cm_spot (by omega) σ _ _ ⟨by omega, by omega⟩ ⟨by omega, by omega⟩) (fun z6 s6 h6 => ?_)
  obtain ⟨rfl, e6⟩ := h6
  obtain rfl := e6.symm
  refine g_zaldN ((10 * p + w)) dX7_isOpenEnded_9 rfl (by omega) (by omega) ?_
  refine g_if_ne (tgt := 26) dX7_isOpenEnded_10 (by decide) (fun c10 => ?_) (fun c10 => ?_)
  · refine g_iconst dX7_isOpenEnded_26 ⟨by decide, by decide⟩ ?_
    refine g_ireturn dX7_isOpenEnded_27 (Or.inr ⟨rfl, by omega⟩) ⟨_, rfl, ?_⟩
    refine ⟨?_, rfl⟩
    first | (refine Or.inl ⟨rfl, by omega, ?_⟩; rcases h16 with h | h <;> first | exact h.2 | omega) | (refine Or.inr ⟨rfl, fun h => ?_⟩; first | omega | (rcases h16 with h2 | h2 <;> first | exact h.2 h2.2 | omega))
  · refine g_aload_n dX7_isOpenEnded_13 rfl ?_
    refine g_iload_n dX7_isOpenEnded_14 rfl ?_
    refine g_iload_n dX7_isOpenEnded_15 rfl ?_
    refine g_callvI dX7_isOpenEnded_16 tm_7_324 rfl ⟨rfl, rfl⟩ rfl (Nat.le_of_ble_eq_true rfl) (cm_isMarked (by omega) σ hf hb p w hp hw) (fun z16 s16 h16 => ?_)
    obtain ⟨h16, e16⟩ := h16
    obtain rfl := e16.symm
    refine g_if_ne (tgt := 26) dX7_isOpenEnded_19 (by decide) (fun c19 => ?_) (fun c19 => ?_)
    · refine g_iconst dX7_isOpenEnded_26 ⟨by decide, by decide⟩ ?_
      refine g_ireturn dX7_isOpenEnded_27 (Or.inr ⟨rfl, by omega⟩) ⟨_, rfl, ?_⟩
      refine ⟨?_, rfl⟩
      first | (refine Or.inl ⟨rfl, by omega, ?_⟩; rcases h16 with h | h <;> first | exact h.2 | omega) | (refine Or.inr ⟨rfl, fun h => ?_⟩; first | omega | (rcases h16 with h2 | h2 <;> first | exact h.2 h2.2 | omega))
    · refine g_iconst dX7_isOpenEnded_22 ⟨by decide, by decide⟩ ?_
      refine g_goto (tgt := 27) dX7_isOpenEnded_23 (by decide) ?_
      refine g_ireturn dX7_isOpenEnded_27 (Or.inr ⟨rfl, by omega⟩) ⟨_, rfl, ?_⟩
      refine ⟨?_, rfl⟩
      first | (refine Or.inl ⟨rfl, by omega, ?_⟩; rcases h16 with h | h <;> first | exact h.2 | omega) | (refine Or.inr ⟨rfl, fun h => ?_⟩; first | omega | (rcases h16 with h2 | h2 <;> first | exact h.2 h2.2 | omega))

