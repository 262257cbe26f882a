/-! THE REFERENCE: handing in, marks -/
def handM (σ : am_HS) (p w t : Nat) (b : Int) : am_HS := uI (uI (uI (uI σ 11 (3 * (10 * p + w) + t) (hI σ 0 3)) 12 (3 * (10 * p + w) + t) b) 10 (10 * p + w) (hI σ 10 (10 * p + w) + 1)) 0 4 (hI σ 0 4 + 1)
/-- the try that is to be marked -/
def tmM (σ : am_HS) (p w : Nat) : Int := if hI σ 3 w = 2 then hI σ 10 (10 * p + w) - 1 else 0
def tmN (σ : am_HS) (p w : Nat) : Prop := hI σ 3 w = 3 ∨ hI σ 10 (10 * p + w) = 0 ∨ 0 ≤ hI σ 13 (3 * (10 * p + w) + (tmM σ p w).toNat)
def apT (σ : am_HS) (p w : Nat) : Int := if 0 ≤ hI σ 13 (3 * (10 * p + w) + 2) then 2 else if 0 ≤ hI σ 13 (3 * (10 * p + w) + 1) then 1 else if 0 ≤ hI σ 13 (3 * (10 * p + w) + 0) then 0 else -1
theorem cm_hands {D : Nat} (hD : 3 ≤ D) (σ : am_HS) (hf : σ.2.2 = mH) (hb : rgM σ) (p w : Nat) (hp : p < 6) (hw : w < 10) (t : Nat) (ht : t < 3) (b : Int) (hh : 0 ≤ hI σ 0 4 ∧ hI σ 0 4 ≤ 100000) : am_Do lm D mX7_hands σ [vR (some 0), vI (p : Int), vI (w : Int), vI (t : Int), vI b] (qV fun s => s = handM σ p w t b) := by
  have hmy : 0 ≤ hI σ 10 (10 * p + w) ∧ hI σ 10 (10 * p + w) ≤ 100000 := hb 10 _
  obtain ⟨d, rfl⟩ : ∃ d, D = d + 1 := ⟨D - 1, by omega⟩
  refine am_enter rfl rfl (Nat.le_of_ble_eq_true rfl) ?_
  refine g_iload_n dX7_hands_0 rfl ?_
  refine g_iload_n dX7_hands_1 rfl ?_
  refine g_callsI dX7_hands_2 tm_7_159 rfl ⟨Nat.le_of_ble_eq_true rfl, rfl, rfl⟩ (Nat.le_of_ble_eq_true rfl) (cm_spot (by omega) _ _ _ ⟨by omega, by omega⟩ ⟨by omega, by omega⟩) (fun z2 s2 h2 => ?_)
  obtain ⟨rfl, e2⟩ := h2
  obtain rfl := e2.symm
  refine g_istore dX7_hands_5 (by decide) rfl ?_
  refine g_aload_n dX7_hands_7 rfl ?_
  refine g_getA dX7_hands_8 tf_7_40 rfl rfl (mrf hf rfl) ?_
  refine g_iconst dX7_hands_11 ⟨by decide, by decide⟩ ?_
  refine g_iload dX7_hands_12 rfl ?_
  refine g_imul dX7_hands_14 rfl ⟨by omega, by omega⟩ ?_
  refine g_iload_n dX7_hands_15 rfl ?_
  refine g_iadd dX7_hands_16 rfl ⟨by omega, by omega⟩ ?_
  refine g_aload_n dX7_hands_17 rfl ?_
  refine g_getI dX7_hands_18 tf_7_163 rfl rfl ?_
  refine g_iastN (3 * (10 * p + w) + t) dX7_hands_21 rfl (by omega) (by omega) ?_
  refine g_aload_n dX7_hands_22 rfl ?_
  refine g_getA dX7_hands_23 tf_7_43 rfl rfl (mrf hf rfl) ?_
  refine g_iconst dX7_hands_26 ⟨by decide, by decide⟩ ?_
  refine g_iload dX7_hands_27 rfl ?_
  refine g_imul dX7_hands_29 rfl ⟨by omega, by omega⟩ ?_
  refine g_iload_n dX7_hands_30 rfl ?_
  refine g_iadd dX7_hands_31 rfl ⟨by omega, by omega⟩ ?_
  refine g_iload dX7_hands_32 rfl ?_
  refine g_iastN (3 * (10 * p + w) + t) dX7_hands_34 rfl (by omega) (by omega) ?_
  refine g_aload_n dX7_hands_35 rfl ?_
  refine g_getA dX7_hands_36 tf_7_37 rfl rfl (mrf hf rfl) ?_
  refine g_iload dX7_hands_39 rfl ?_
  refine g_dup2_11 dX7_hands_41 rfl rfl ?_
  refine g_ialdN ((10 * p + w)) dX7_hands_42 rfl (by omega) (by omega) ?_
  rw [hI_uI_n (by omega), hI_uI_n (by omega)]
  refine g_iconst dX7_hands_43 ⟨by decide, by decide⟩ ?_
  refine g_iadd dX7_hands_44 rfl ⟨by omega, by omega⟩ ?_
  refine g_iastN ((10 * p + w)) dX7_hands_45 rfl (by omega) (by omega) ?_
  refine g_aload_n dX7_hands_46 rfl ?_
  refine g_dup dX7_hands_47 rfl ?_
  refine g_getI dX7_hands_48 tf_7_366 rfl rfl ?_
  rw [hI_uI_n (by omega), hI_uI_n (by omega), hI_uI_n (by omega)]
  refine g_iconst dX7_hands_51 ⟨by decide, by decide⟩ ?_
  refine g_iadd dX7_hands_52 rfl ⟨by omega, by omega⟩ ?_
  refine g_putI dX7_hands_53 tf_7_366 rfl rfl rfl ?_
  refine g_return dX7_hands_56 rfl ⟨rfl, ?_⟩
  rfl

theorem cm_toMark {D : Nat} (hD : 3 ≤ D) (σ : am_HS) (hf : σ.2.2 = mH) (hb : rgM σ) (p w : Nat) (hp : p < 6) (hw : w < 10) (hmny : hI σ 3 w = 2 → hI σ 10 (10 * p + w) ≤ 3) : am_Do lm D mX7_toMark σ [vR (some 0), vI (p : Int), vI (w : Int)] (qI fun z s => (z = -1 ∧ tmN σ p w ∨ z = tmM σ p w ∧ 0 ≤ z ∧ z < 3 ∧ ¬ tmN σ p w) ∧ s = σ) := by
  have hmy : 0 ≤ hI σ 10 (10 * p + w) ∧ hI σ 10 (10 * p + w) ≤ 100000 := hb 10 _
  obtain ⟨d, rfl⟩ : ∃ d, D = d + 1 := ⟨D - 1, by omega⟩
  refine am_enter rfl rfl (Nat.le_of_ble_eq_true rfl) ?_
  refine g_iload_n dX7_toMark_0 rfl ?_
  refine g_iload_n dX7_toMark_1 rfl ?_
  refine g_callsI dX7_toMark_2 tm_7_159 rfl ⟨Nat.le_of_ble_eq_true rfl, rfl, rfl⟩ (Nat.le_of_ble_eq_true rfl) (cm_spot (by omega) _ _ _ ⟨by omega, by omega⟩ ⟨by omega, by omega⟩) (fun z2 s2 h2 => ?_)
  obtain ⟨rfl, e2⟩ := h2
  obtain rfl := e2.symm
  refine g_istore_n dX7_toMark_5 (by decide) rfl ?_
  refine g_aload_n dX7_toMark_6 rfl ?_
  refine g_getA dX7_toMark_7 tf_7_16 rfl rfl (mrf hf rfl) ?_
  refine g_iload_n dX7_toMark_10 rfl ?_
  refine g_ialdN (w) dX7_toMark_11 rfl (by omega) (by omega) ?_
  refine g_iconst dX7_toMark_12 ⟨by decide, by decide⟩ ?_
  refine g_icmp_ne (tgt := 27) dX7_toMark_13 (by decide) (fun c13 => ?_) (fun c13 => ?_)
  · refine g_iconst dX7_toMark_27 ⟨by decide, by decide⟩ ?_
    refine g_istore dX7_toMark_28 (by decide) rfl ?_
    refine g_aload_n dX7_toMark_30 rfl ?_
    refine g_getA dX7_toMark_31 tf_7_16 rfl rfl (mrf hf rfl) ?_
    refine g_iload_n dX7_toMark_34 rfl ?_
    refine g_ialdN (w) dX7_toMark_35 rfl (by omega) (by omega) ?_
    refine g_iconst dX7_toMark_36 ⟨by decide, by decide⟩ ?_
    refine g_icmp_eq (tgt := 63) dX7_toMark_37 (by decide) (fun c37 => ?_) (fun c37 => ?_)
    · refine g_iconst dX7_toMark_63 ⟨by decide, by decide⟩ ?_
      refine g_goto (tgt := 69) dX7_toMark_64 (by decide) ?_
      refine g_ireturn dX7_toMark_69 (Or.inl rfl) ⟨_, rfl, ?_⟩
      refine ⟨?_, rfl⟩
      first
        | exact Or.inl ⟨rfl, Or.inl (by omega)⟩
        | exact Or.inl ⟨rfl, Or.inr (Or.inl (by omega))⟩
        | exact Or.inl ⟨rfl, Or.inr (Or.inr (by omega))⟩
        | (refine Or.inr ⟨?_, by omega, by omega, fun h => ?_⟩
           · unfold tmM
             first
               | (rw [if_pos (by omega)]; done)
               | (rw [if_neg (by omega)]; done)
           · rcases h with h | h | h <;> omega)
    · refine g_aload_n dX7_toMark_40 rfl ?_
      refine g_getA dX7_toMark_41 tf_7_37 rfl rfl (mrf hf rfl) ?_
      refine g_iload_n dX7_toMark_44 rfl ?_
      refine g_ialdN ((10 * p + w)) dX7_toMark_45 rfl (by omega) (by omega) ?_
      refine g_if_eq (tgt := 63) dX7_toMark_46 (by decide) (fun c46 => ?_) (fun c46 => ?_)
      · refine g_iconst dX7_toMark_63 ⟨by decide, by decide⟩ ?_
        refine g_goto (tgt := 69) dX7_toMark_64 (by decide) ?_
        refine g_ireturn dX7_toMark_69 (Or.inl rfl) ⟨_, rfl, ?_⟩
        refine ⟨?_, rfl⟩
        first
          | exact Or.inl ⟨rfl, Or.inl (by omega)⟩
          | exact Or.inl ⟨rfl, Or.inr (Or.inl (by omega))⟩
          | exact Or.inl ⟨rfl, Or.inr (Or.inr (by omega))⟩
          | (refine Or.inr ⟨?_, by omega, by omega, fun h => ?_⟩
             · unfold tmM
               first
                 | (rw [if_pos (by omega)]; done)
                 | (rw [if_neg (by omega)]; done)
             · rcases h with h | h | h <;> omega)
      · refine g_aload_n dX7_toMark_49 rfl ?_
        refine g_getA dX7_toMark_50 tf_7_46 rfl rfl (mrf hf rfl) ?_
        refine g_iconst dX7_toMark_53 ⟨by decide, by decide⟩ ?_
        refine g_iload_n dX7_toMark_54 rfl ?_
        refine g_imul dX7_toMark_55 rfl ⟨by omega, by omega⟩ ?_
        refine g_iload dX7_toMark_56 rfl ?_
        refine g_iadd dX7_toMark_58 rfl ⟨by omega, by omega⟩ ?_
        refine g_ialdN (3 * (10 * p + w) + (tmM σ p w).toNat) dX7_toMark_59 rfl (by unfold tmM; split <;> omega) (by unfold tmM; split <;> omega) ?_
        refine g_if_lt (tgt := 67) dX7_toMark_60 (by decide) (fun c60 => ?_) (fun c60 => ?_)
        · refine g_iload dX7_toMark_67 rfl ?_
          refine g_ireturn dX7_toMark_69 (Or.inl rfl) ⟨_, rfl, ?_⟩
          refine ⟨?_, rfl⟩
          first
            | exact Or.inl ⟨rfl, Or.inl (by omega)⟩
            | exact Or.inl ⟨rfl, Or.inr (Or.inl (by omega))⟩
            | exact Or.inl ⟨rfl, Or.inr (Or.inr (by omega))⟩
            | (refine Or.inr ⟨?_, by omega, by omega, fun h => ?_⟩
               · unfold tmM
                 first
                   | (rw [if_pos (by omega)]; done)
                   | (rw [if_neg (by omega)]; done)
               · rcases h with h | h | h <;> omega)
        · refine g_iconst dX7_toMark_63 ⟨by decide, by decide⟩ ?_
          refine g_goto (tgt := 69) dX7_toMark_64 (by decide) ?_
          refine g_ireturn dX7_toMark_69 (Or.inl rfl) ⟨_, rfl, ?_⟩
          refine ⟨?_, rfl⟩
          first
            | exact Or.inl ⟨rfl, Or.inl (by omega)⟩
            | exact Or.inl ⟨rfl, Or.inr (Or.inl (by omega))⟩
            | exact Or.inl ⟨rfl, Or.inr (Or.inr (by omega))⟩
            | (refine Or.inr ⟨?_, by omega, by omega, fun h => ?_⟩
               · unfold tmM
                 first
                   | (rw [if_pos (by omega)]; done)
                   | (rw [if_neg (by omega)]; done)
               · rcases h with h | h | h <;> omega)
  · refine g_aload_n dX7_toMark_16 rfl ?_
    refine g_getA dX7_toMark_17 tf_7_37 rfl rfl (mrf hf rfl) ?_
    refine g_iload_n dX7_toMark_20 rfl ?_
    refine g_ialdN ((10 * p + w)) dX7_toMark_21 rfl (by omega) (by omega) ?_
    refine g_iconst dX7_toMark_22 ⟨by decide, by decide⟩ ?_
    refine g_isub dX7_toMark_23 rfl ⟨by omega, by omega⟩ ?_
    refine g_goto (tgt := 28) dX7_toMark_24 (by decide) ?_
    refine g_istore dX7_toMark_28 (by decide) rfl ?_
    refine g_aload_n dX7_toMark_30 rfl ?_
    refine g_getA dX7_toMark_31 tf_7_16 rfl rfl (mrf hf rfl) ?_
    refine g_iload_n dX7_toMark_34 rfl ?_
    refine g_ialdN (w) dX7_toMark_35 rfl (by omega) (by omega) ?_
    refine g_iconst dX7_toMark_36 ⟨by decide, by decide⟩ ?_
    refine g_icmp_eq (tgt := 63) dX7_toMark_37 (by decide) (fun c37 => ?_) (fun c37 => ?_)
    · refine g_iconst dX7_toMark_63 ⟨by decide, by decide⟩ ?_
      refine g_goto (tgt := 69) dX7_toMark_64 (by decide) ?_
      refine g_ireturn dX7_toMark_69 (Or.inl rfl) ⟨_, rfl, ?_⟩
      refine ⟨?_, rfl⟩
      first
        | exact Or.inl ⟨rfl, Or.inl (by omega)⟩
        | exact Or.inl ⟨rfl, Or.inr (Or.inl (by omega))⟩
        | exact Or.inl ⟨rfl, Or.inr (Or.inr (by omega))⟩
        | (refine Or.inr ⟨?_, by omega, by omega, fun h => ?_⟩
           · unfold tmM
             first
               | (rw [if_pos (by omega)]; done)
               | (rw [if_neg (by omega)]; done)
           · rcases h with h | h | h <;> omega)
    · refine g_aload_n dX7_toMark_40 rfl ?_
      refine g_getA dX7_toMark_41 tf_7_37 rfl rfl (mrf hf rfl) ?_
      refine g_iload_n dX7_toMark_44 rfl ?_
      refine g_ialdN ((10 * p + w)) dX7_toMark_45 rfl (by omega) (by omega) ?_
      refine g_if_eq (tgt := 63) dX7_toMark_46 (by decide) (fun c46 => ?_) (fun c46 => ?_)
      · refine g_iconst dX7_toMark_63 ⟨by decide, by decide⟩ ?_
        refine g_goto (tgt := 69) dX7_toMark_64 (by decide) ?_
        refine g_ireturn dX7_toMark_69 (Or.inl rfl) ⟨_, rfl, ?_⟩
        refine ⟨?_, rfl⟩
        first
          | exact Or.inl ⟨rfl, Or.inl (by omega)⟩
          | exact Or.inl ⟨rfl, Or.inr (Or.inl (by omega))⟩
          | exact Or.inl ⟨rfl, Or.inr (Or.inr (by omega))⟩
          | (refine Or.inr ⟨?_, by omega, by omega, fun h => ?_⟩
             · unfold tmM
               first
                 | (rw [if_pos (by omega)]; done)
                 | (rw [if_neg (by omega)]; done)
             · rcases h with h | h | h <;> omega)
      · refine g_aload_n dX7_toMark_49 rfl ?_
        refine g_getA dX7_toMark_50 tf_7_46 rfl rfl (mrf hf rfl) ?_
        refine g_iconst dX7_toMark_53 ⟨by decide, by decide⟩ ?_
        refine g_iload_n dX7_toMark_54 rfl ?_
        refine g_imul dX7_toMark_55 rfl ⟨by omega, by omega⟩ ?_
        refine g_iload dX7_toMark_56 rfl ?_
        refine g_iadd dX7_toMark_58 rfl ⟨by omega, by omega⟩ ?_
        refine g_ialdN (3 * (10 * p + w) + (tmM σ p w).toNat) dX7_toMark_59 rfl (by unfold tmM; split <;> omega) (by unfold tmM; split <;> omega) ?_
        refine g_if_lt (tgt := 67) dX7_toMark_60 (by decide) (fun c60 => ?_) (fun c60 => ?_)
        · refine g_iload dX7_toMark_67 rfl ?_
          refine g_ireturn dX7_toMark_69 (Or.inl rfl) ⟨_, rfl, ?_⟩
          refine ⟨?_, rfl⟩
          first
            | exact Or.inl ⟨rfl, Or.inl (by omega)⟩
            | exact Or.inl ⟨rfl, Or.inr (Or.inl (by omega))⟩
            | exact Or.inl ⟨rfl, Or.inr (Or.inr (by omega))⟩
            | (refine Or.inr ⟨?_, by omega, by omega, fun h => ?_⟩
               · unfold tmM
                 first
                   | (rw [if_pos (by omega)]; done)
                   | (rw [if_neg (by omega)]; done)
               · rcases h with h | h | h <;> omega)
        · refine g_iconst dX7_toMark_63 ⟨by decide, by decide⟩ ?_
          refine g_goto (tgt := 69) dX7_toMark_64 (by decide) ?_
          refine g_ireturn dX7_toMark_69 (Or.inl rfl) ⟨_, rfl, ?_⟩
          refine ⟨?_, rfl⟩
          first
            | exact Or.inl ⟨rfl, Or.inl (by omega)⟩
            | exact Or.inl ⟨rfl, Or.inr (Or.inl (by omega))⟩
            | exact Or.inl ⟨rfl, Or.inr (Or.inr (by omega))⟩
            | (refine Or.inr ⟨?_, by omega, by omega, fun h => ?_⟩
               · unfold tmM
                 first
                   | (rw [if_pos (by omega)]; done)
                   | (rw [if_neg (by omega)]; done)
               · rcases h with h | h | h <;> omega)

theorem cm_isShown {D : Nat} (hD : 3 ≤ D) (σ : am_HS) (hf : σ.2.2 = mH) (p w : Nat) (hp : p < 6) (hw : w < 10) : am_Do lm D mX7_isShown σ [vR (some 0), vI (p : Int), vI (w : Int)] (qI fun z s => (z = 1 ∧ (hI σ 3 w = 3 ∧ 0 < hI σ 10 (10 * p + w)) ∨ z = 0 ∧ ¬ (hI σ 3 w = 3 ∧ 0 < hI σ 10 (10 * p + w))) ∧ s = σ) := by
  obtain ⟨d, rfl⟩ : ∃ d, D = d + 1 := ⟨D - 1, by omega⟩
  refine am_enter rfl rfl (Nat.le_of_ble_eq_true rfl) ?_
  refine g_aload_n dX7_isShown_0 rfl ?_
  refine g_getA dX7_isShown_1 tf_7_16 rfl rfl (mrf hf rfl) ?_
  refine g_iload_n dX7_isShown_4 rfl ?_
  refine g_ialdN (w) dX7_isShown_5 rfl (by omega) (by omega) ?_
  refine g_iconst dX7_isShown_6 ⟨by decide, by decide⟩ ?_
  refine g_icmp_ne (tgt := 27) dX7_isShown_7 (by decide) (fun c7 => ?_) (fun c7 => ?_)
  · refine g_iconst dX7_isShown_27 ⟨by decide, by decide⟩ ?_
    refine g_ireturn dX7_isShown_28 (Or.inr ⟨rfl, by omega⟩) ⟨_, rfl, ?_⟩
    exact ⟨by omega, rfl⟩
  · refine g_aload_n dX7_isShown_10 rfl ?_
    refine g_getA dX7_isShown_11 tf_7_37 rfl rfl (mrf hf rfl) ?_
    refine g_iload_n dX7_isShown_14 rfl ?_
    refine g_iload_n dX7_isShown_15 rfl ?_
    refine g_callsI dX7_isShown_16 tm_7_159 rfl ⟨Nat.le_of_ble_eq_true rfl, rfl, rfl⟩ (Nat.le_of_ble_eq_true rfl) (cm_spot (by omega) _ _ _ ⟨by omega, by omega⟩ ⟨by omega, by omega⟩) (fun z16 s16 h16 => ?_)
    obtain ⟨rfl, e16⟩ := h16
    obtain rfl := e16.symm
    refine g_ialdN ((10 * p + w)) dX7_isShown_19 rfl (by omega) (by omega) ?_
    refine g_if_le (tgt := 27) dX7_isShown_20 (by decide) (fun c20 => ?_) (fun c20 => ?_)
    · refine g_iconst dX7_isShown_27 ⟨by decide, by decide⟩ ?_
      refine g_ireturn dX7_isShown_28 (Or.inr ⟨rfl, by omega⟩) ⟨_, rfl, ?_⟩
      exact ⟨by omega, rfl⟩
    · refine g_iconst dX7_isShown_23 ⟨by decide, by decide⟩ ?_
      refine g_goto (tgt := 28) dX7_isShown_24 (by decide) ?_
      refine g_ireturn dX7_isShown_28 (Or.inr ⟨rfl, by omega⟩) ⟨_, rfl, ?_⟩
      exact ⟨by omega, rfl⟩

theorem cm_appealT {d : Nat} (hD : 3 ≤ d) (σ : am_HS) (hf : σ.2.2 = mH) (hb : rgM σ) (hg : GM σ) (v : Int) (ha : 0 ≤ hI σ 0 6 ∧ hI σ 0 6 ≤ 100000) (p w : Nat) (hp : p < 6) (hw : w < 10) (hin : (p : Int) < hI σ 0 1 ∧ (w : Int) < hI σ 0 2) (t : Int) (ht : t = apT σ p w) (ht2 : -1 ≤ t ∧ t ≤ 2) : am_Go lm d 7 7 1 cX7_appeal 58 [some (vR (some 0)), some (vI (p : Int)), some (vI (w : Int)), some (vI v), some (vI (3 * (10 * (p : Int) + (w : Int)))), some (vI t), none] [] σ (qI fun z s => (¬ (0 ≤ (p : Int) ∧ (p : Int) < hI σ 0 1 ∧ 0 ≤ (w : Int) ∧ (w : Int) < hI σ 0 2) ∧ z = -1 ∧ s = uI σ 1 1 (hI σ 1 1 + 1)) ∨ ((0 ≤ (p : Int) ∧ (p : Int) < hI σ 0 1 ∧ 0 ≤ (w : Int) ∧ (w : Int) < hI σ 0 2) ∧ ((hI σ 3 w = 3 ∨ apT σ p w < 0) ∧ z = -3 ∧ s = uI σ 1 3 (hI σ 1 3 + 1) ∨ ¬ (hI σ 3 w = 3 ∨ apT σ p w < 0) ∧ (v < 0 ∧ z = -4 ∧ s = uI σ 1 4 (hI σ 1 4 + 1) ∨ hI σ 4 w < v ∧ 0 ≤ v ∧ z = -6 ∧ s = uI σ 1 6 (hI σ 1 6 + 1) ∨ 0 ≤ v ∧ v ≤ hI σ 4 w ∧ z = hI σ 13 (3 * (10 * p + w) + (apT σ p w).toNat) ∧ s = uI (uI σ 13 (3 * (10 * p + w) + (apT σ p w).toNat) v) 0 6 (hI σ 0 6 + 1))))) := by
  obtain ⟨hg1, hg2, hrf⟩ := id hg
  refine g_aload_n dX7_appeal_58 rfl ?_
  refine g_getA dX7_appeal_59 tf_7_16 rfl rfl (mrf hf rfl) ?_
  refine g_iload_n dX7_appeal_62 rfl ?_
  refine g_ialdN (w) dX7_appeal_63 rfl (by omega) (by omega) ?_
  refine g_iconst dX7_appeal_64 ⟨by decide, by decide⟩ ?_
  refine g_icmp_eq (tgt := 73) dX7_appeal_65 (by decide) (fun c65 => ?_) (fun c65 => ?_)
  · refine g_aload_n dX7_appeal_73 rfl ?_
    refine g_bipush dX7_appeal_74 (by decide) ?_
    refine g_callvI dX7_appeal_76 tm_7_133 rfl ⟨rfl, rfl⟩ rfl (Nat.le_of_ble_eq_true rfl) (cm_refuse (by omega) σ hf _ ⟨by omega, by omega⟩ hg.2.2) (fun z76 s76 h76 => ?_)
    obtain ⟨rfl, rfl⟩ := h76
    refine g_ireturn dX7_appeal_79 (Or.inl rfl) ⟨_, rfl, ?_⟩
    first
      | exact Or.inr ⟨by omega, Or.inl ⟨by omega, rfl, rfl⟩⟩
      | exact Or.inr ⟨by omega, Or.inr ⟨by omega, Or.inl ⟨by omega, rfl, rfl⟩⟩⟩
      | exact Or.inr ⟨by omega, Or.inr ⟨by omega, Or.inr (Or.inl ⟨by omega, by omega, rfl, rfl⟩)⟩⟩
      | (rw [← ht]; exact Or.inr ⟨by omega, Or.inr ⟨by omega, Or.inr (Or.inr ⟨by omega, by omega, rfl, rfl⟩)⟩⟩)
  · refine g_iload dX7_appeal_68 rfl ?_
    refine g_if_ge (tgt := 80) dX7_appeal_70 (by decide) (fun c70 => ?_) (fun c70 => ?_)
    · refine g_iload_n dX7_appeal_80 rfl ?_
      refine g_if_ge (tgt := 91) dX7_appeal_81 (by decide) (fun c81 => ?_) (fun c81 => ?_)
      · refine g_iload_n dX7_appeal_91 rfl ?_
        refine g_aload_n dX7_appeal_92 rfl ?_
        refine g_getA dX7_appeal_93 tf_7_19 rfl rfl (mrf hf rfl) ?_
        refine g_iload_n dX7_appeal_96 rfl ?_
        refine g_ialdN (w) dX7_appeal_97 rfl (by omega) (by omega) ?_
        refine g_icmp_le (tgt := 108) dX7_appeal_98 (by decide) (fun c98 => ?_) (fun c98 => ?_)
        · refine g_aload_n dX7_appeal_108 rfl ?_
          refine g_getA dX7_appeal_109 tf_7_46 rfl rfl (mrf hf rfl) ?_
          refine g_iload dX7_appeal_112 rfl ?_
          refine g_iload dX7_appeal_114 rfl ?_
          refine g_iadd dX7_appeal_116 rfl ⟨by omega, by omega⟩ ?_
          refine g_ialdN (3 * (10 * p + w) + t.toNat) dX7_appeal_117 rfl (by omega) (by omega) ?_
          refine g_istore dX7_appeal_118 (by decide) rfl ?_
          refine g_aload_n dX7_appeal_120 rfl ?_
          refine g_getA dX7_appeal_121 tf_7_46 rfl rfl (mrf hf rfl) ?_
          refine g_iload dX7_appeal_124 rfl ?_
          refine g_iload dX7_appeal_126 rfl ?_
          refine g_iadd dX7_appeal_128 rfl ⟨by omega, by omega⟩ ?_
          refine g_iload_n dX7_appeal_129 rfl ?_
          refine g_iastN (3 * (10 * p + w) + t.toNat) dX7_appeal_130 rfl (by omega) (by omega) ?_
          refine g_aload_n dX7_appeal_131 rfl ?_
          refine g_dup dX7_appeal_132 rfl ?_
          refine g_getI dX7_appeal_133 tf_7_388 rfl rfl ?_
          rw [hI_uI_n (by omega)]
          refine g_iconst dX7_appeal_136 ⟨by decide, by decide⟩ ?_
          refine g_iadd dX7_appeal_137 rfl ⟨by omega, by omega⟩ ?_
          refine g_putI dX7_appeal_138 tf_7_388 rfl rfl rfl ?_
          refine g_iload dX7_appeal_141 rfl ?_
          refine g_ireturn dX7_appeal_143 (Or.inl rfl) ⟨_, rfl, ?_⟩
          first
            | exact Or.inr ⟨by omega, Or.inl ⟨by omega, rfl, rfl⟩⟩
            | exact Or.inr ⟨by omega, Or.inr ⟨by omega, Or.inl ⟨by omega, rfl, rfl⟩⟩⟩
            | exact Or.inr ⟨by omega, Or.inr ⟨by omega, Or.inr (Or.inl ⟨by omega, by omega, rfl, rfl⟩)⟩⟩
            | (rw [← ht]; exact Or.inr ⟨by omega, Or.inr ⟨by omega, Or.inr (Or.inr ⟨by omega, by omega, rfl, rfl⟩)⟩⟩)
        · refine g_aload_n dX7_appeal_101 rfl ?_
          refine g_bipush dX7_appeal_102 (by decide) ?_
          refine g_callvI dX7_appeal_104 tm_7_133 rfl ⟨rfl, rfl⟩ rfl (Nat.le_of_ble_eq_true rfl) (cm_refuse (by omega) σ hf _ ⟨by omega, by omega⟩ hg.2.2) (fun z104 s104 h104 => ?_)
          obtain ⟨rfl, rfl⟩ := h104
          refine g_ireturn dX7_appeal_107 (Or.inl rfl) ⟨_, rfl, ?_⟩
          first
            | exact Or.inr ⟨by omega, Or.inl ⟨by omega, rfl, rfl⟩⟩
            | exact Or.inr ⟨by omega, Or.inr ⟨by omega, Or.inl ⟨by omega, rfl, rfl⟩⟩⟩
            | exact Or.inr ⟨by omega, Or.inr ⟨by omega, Or.inr (Or.inl ⟨by omega, by omega, rfl, rfl⟩)⟩⟩
            | (rw [← ht]; exact Or.inr ⟨by omega, Or.inr ⟨by omega, Or.inr (Or.inr ⟨by omega, by omega, rfl, rfl⟩)⟩⟩)
      · refine g_aload_n dX7_appeal_84 rfl ?_
        refine g_bipush dX7_appeal_85 (by decide) ?_
        refine g_callvI dX7_appeal_87 tm_7_133 rfl ⟨rfl, rfl⟩ rfl (Nat.le_of_ble_eq_true rfl) (cm_refuse (by omega) σ hf _ ⟨by omega, by omega⟩ hg.2.2) (fun z87 s87 h87 => ?_)
        obtain ⟨rfl, rfl⟩ := h87
        refine g_ireturn dX7_appeal_90 (Or.inl rfl) ⟨_, rfl, ?_⟩
        first
          | exact Or.inr ⟨by omega, Or.inl ⟨by omega, rfl, rfl⟩⟩
          | exact Or.inr ⟨by omega, Or.inr ⟨by omega, Or.inl ⟨by omega, rfl, rfl⟩⟩⟩
          | exact Or.inr ⟨by omega, Or.inr ⟨by omega, Or.inr (Or.inl ⟨by omega, by omega, rfl, rfl⟩)⟩⟩
          | (rw [← ht]; exact Or.inr ⟨by omega, Or.inr ⟨by omega, Or.inr (Or.inr ⟨by omega, by omega, rfl, rfl⟩)⟩⟩)
    · refine g_aload_n dX7_appeal_73 rfl ?_
      refine g_bipush dX7_appeal_74 (by decide) ?_
      refine g_callvI dX7_appeal_76 tm_7_133 rfl ⟨rfl, rfl⟩ rfl (Nat.le_of_ble_eq_true rfl) (cm_refuse (by omega) σ hf _ ⟨by omega, by omega⟩ hg.2.2) (fun z76 s76 h76 => ?_)
      obtain ⟨rfl, rfl⟩ := h76
      refine g_ireturn dX7_appeal_79 (Or.inl rfl) ⟨_, rfl, ?_⟩
      first
        | exact Or.inr ⟨by omega, Or.inl ⟨by omega, rfl, rfl⟩⟩
        | exact Or.inr ⟨by omega, Or.inr ⟨by omega, Or.inl ⟨by omega, rfl, rfl⟩⟩⟩
        | exact Or.inr ⟨by omega, Or.inr ⟨by omega, Or.inr (Or.inl ⟨by omega, by omega, rfl, rfl⟩)⟩⟩
        | (rw [← ht]; exact Or.inr ⟨by omega, Or.inr ⟨by omega, Or.inr (Or.inr ⟨by omega, by omega, rfl, rfl⟩)⟩⟩)
theorem cm_appeal {D : Nat} (hD : 4 ≤ D) (σ : am_HS) (hf : σ.2.2 = mH) (hb : rgM σ) (hg : GM σ) (ha : 0 ≤ hI σ 0 6 ∧ hI σ 0 6 ≤ 100000) (p w v : Int) : am_Do lm D mX7_appeal σ [vR (some 0), vI p, vI w, vI v] (qI fun z s => (¬ (0 ≤ p ∧ p < hI σ 0 1 ∧ 0 ≤ w ∧ w < hI σ 0 2) ∧ z = -1 ∧ s = uI σ 1 1 (hI σ 1 1 + 1)) ∨ ((0 ≤ p ∧ p < hI σ 0 1 ∧ 0 ≤ w ∧ w < hI σ 0 2) ∧ ((hI σ 3 w.toNat = 3 ∨ apT σ p.toNat w.toNat < 0) ∧ z = -3 ∧ s = uI σ 1 3 (hI σ 1 3 + 1) ∨ ¬ (hI σ 3 w.toNat = 3 ∨ apT σ p.toNat w.toNat < 0) ∧ (v < 0 ∧ z = -4 ∧ s = uI σ 1 4 (hI σ 1 4 + 1) ∨ hI σ 4 w.toNat < v ∧ 0 ≤ v ∧ z = -6 ∧ s = uI σ 1 6 (hI σ 1 6 + 1) ∨ 0 ≤ v ∧ v ≤ hI σ 4 w.toNat ∧ z = hI σ 13 (3 * (10 * p.toNat + w.toNat) + (apT σ p.toNat w.toNat).toNat) ∧ s = uI (uI σ 13 (3 * (10 * p.toNat + w.toNat) + (apT σ p.toNat w.toNat).toNat) v) 0 6 (hI σ 0 6 + 1))))) := by
  obtain ⟨hg1, hg2, hrf⟩ := id hg
  obtain ⟨d, rfl⟩ : ∃ d, D = d + 1 := ⟨D - 1, by omega⟩
  refine am_enter rfl rfl (Nat.le_of_ble_eq_true rfl) ?_
  refine g_aload_n dX7_appeal_0 rfl ?_
  refine g_iload_n dX7_appeal_1 rfl ?_
  refine g_callvI dX7_appeal_2 tm_7_151 rfl ⟨rfl, rfl⟩ rfl (Nat.le_of_ble_eq_true rfl) (cm_isPupil (by omega) σ _) (fun z2 s2 h2 => ?_)
  obtain ⟨h2, e2⟩ := h2
  obtain rfl := e2.symm
  refine g_if_eq (tgt := 16) dX7_appeal_5 (by decide) (fun c5 => ?_) (fun c5 => ?_)
  · refine g_aload_n dX7_appeal_16 rfl ?_
    refine g_iconst dX7_appeal_17 ⟨by decide, by decide⟩ ?_
    refine g_callvI dX7_appeal_18 tm_7_133 rfl ⟨rfl, rfl⟩ rfl (Nat.le_of_ble_eq_true rfl) (cm_refuse (by omega) σ hf _ ⟨by omega, by omega⟩ hg.2.2) (fun z18 s18 h18 => ?_)
    obtain ⟨rfl, rfl⟩ := h18
    refine g_ireturn dX7_appeal_21 (Or.inl rfl) ⟨_, rfl, ?_⟩
    exact Or.inl ⟨by omega, rfl, rfl⟩
  · refine g_aload_n dX7_appeal_8 rfl ?_
    refine g_iload_n dX7_appeal_9 rfl ?_
    refine g_callvI dX7_appeal_10 tm_7_156 rfl ⟨rfl, rfl⟩ rfl (Nat.le_of_ble_eq_true rfl) (cm_isWork (by omega) σ _) (fun z10 s10 h10 => ?_)
    obtain ⟨h10, e10⟩ := h10
    obtain rfl := e10.symm
    refine g_if_ne (tgt := 22) dX7_appeal_13 (by decide) (fun c13 => ?_) (fun c13 => ?_)
    · obtain ⟨p, rfl⟩ : ∃ q : Nat, p = (q : Int) := ⟨p.toNat, by omega⟩
      obtain ⟨w, rfl⟩ : ∃ q : Nat, w = (q : Int) := ⟨w.toNat, by omega⟩
      have hp : p < 6 := by omega
      have hw : w < 10 := by omega
      refine g_iconst dX7_appeal_22 ⟨by decide, by decide⟩ ?_
      refine g_iload_n dX7_appeal_23 rfl ?_
      refine g_iload_n dX7_appeal_24 rfl ?_
      refine g_callsI dX7_appeal_25 tm_7_159 rfl ⟨Nat.le_of_ble_eq_true rfl, rfl, rfl⟩ (Nat.le_of_ble_eq_true rfl) (cm_spot (by omega) _ _ _ ⟨by omega, by omega⟩ ⟨by omega, by omega⟩) (fun z25 s25 h25 => ?_)
      obtain ⟨rfl, e25⟩ := h25
      obtain rfl := e25.symm
      refine g_imul dX7_appeal_28 rfl ⟨by omega, by omega⟩ ?_
      refine g_istore dX7_appeal_29 (by decide) rfl ?_
      refine g_iconst dX7_appeal_31 ⟨by decide, by decide⟩ ?_
      refine g_istore dX7_appeal_32 (by decide) rfl ?_
      have L0 : ∀ x : Int, x = -1 → ¬ 0 ≤ hI σ 13 (3 * (10 * p + w) + 0) → ¬ 0 ≤ hI σ 13 (3 * (10 * p + w) + 1) → ¬ 0 ≤ hI σ 13 (3 * (10 * p + w) + 2) → am_Go lm d 7 7 1 cX7_appeal 34 [some (vR (some 0)), some (vI (p : Int)), some (vI (w : Int)), some (vI v), some (vI (3 * (10 * (p : Int) + (w : Int)))), some (vI x), none] [] σ (qI fun z s => (¬ (0 ≤ (p : Int) ∧ (p : Int) < hI σ 0 1 ∧ 0 ≤ (w : Int) ∧ (w : Int) < hI σ 0 2) ∧ z = -1 ∧ s = uI σ 1 1 (hI σ 1 1 + 1)) ∨ ((0 ≤ (p : Int) ∧ (p : Int) < hI σ 0 1 ∧ 0 ≤ (w : Int) ∧ (w : Int) < hI σ 0 2) ∧ ((hI σ 3 w = 3 ∨ apT σ p w < 0) ∧ z = -3 ∧ s = uI σ 1 3 (hI σ 1 3 + 1) ∨ ¬ (hI σ 3 w = 3 ∨ apT σ p w < 0) ∧ (v < 0 ∧ z = -4 ∧ s = uI σ 1 4 (hI σ 1 4 + 1) ∨ hI σ 4 w < v ∧ 0 ≤ v ∧ z = -6 ∧ s = uI σ 1 6 (hI σ 1 6 + 1) ∨ 0 ≤ v ∧ v ≤ hI σ 4 w ∧ z = hI σ 13 (3 * (10 * p + w) + (apT σ p w).toNat) ∧ s = uI (uI σ 13 (3 * (10 * p + w) + (apT σ p w).toNat) v) 0 6 (hI σ 0 6 + 1))))) := by
        intro x hx n0 n1 n2
        refine g_iload dX7_appeal_34 rfl ?_
        refine g_if_lt (tgt := 58) dX7_appeal_36 (by decide) (fun c36 => ?_) (fun c36 => ?_)
        · exact cm_appealT (by omega) σ hf hb hg v ha p w hp hw (by omega) x (by unfold apT; rw [if_neg n2, if_neg n1, if_neg n0]; exact hx) (by omega)
        · exfalso; omega
      have L1 : ∀ x : Int, x = 0 → ¬ 0 ≤ hI σ 13 (3 * (10 * p + w) + 1) → ¬ 0 ≤ hI σ 13 (3 * (10 * p + w) + 2) → am_Go lm d 7 7 1 cX7_appeal 34 [some (vR (some 0)), some (vI (p : Int)), some (vI (w : Int)), some (vI v), some (vI (3 * (10 * (p : Int) + (w : Int)))), some (vI x), none] [] σ (qI fun z s => (¬ (0 ≤ (p : Int) ∧ (p : Int) < hI σ 0 1 ∧ 0 ≤ (w : Int) ∧ (w : Int) < hI σ 0 2) ∧ z = -1 ∧ s = uI σ 1 1 (hI σ 1 1 + 1)) ∨ ((0 ≤ (p : Int) ∧ (p : Int) < hI σ 0 1 ∧ 0 ≤ (w : Int) ∧ (w : Int) < hI σ 0 2) ∧ ((hI σ 3 w = 3 ∨ apT σ p w < 0) ∧ z = -3 ∧ s = uI σ 1 3 (hI σ 1 3 + 1) ∨ ¬ (hI σ 3 w = 3 ∨ apT σ p w < 0) ∧ (v < 0 ∧ z = -4 ∧ s = uI σ 1 4 (hI σ 1 4 + 1) ∨ hI σ 4 w < v ∧ 0 ≤ v ∧ z = -6 ∧ s = uI σ 1 6 (hI σ 1 6 + 1) ∨ 0 ≤ v ∧ v ≤ hI σ 4 w ∧ z = hI σ 13 (3 * (10 * p + w) + (apT σ p w).toNat) ∧ s = uI (uI σ 13 (3 * (10 * p + w) + (apT σ p w).toNat) v) 0 6 (hI σ 0 6 + 1))))) := by
        intro x hx n1 n2
        refine g_iload dX7_appeal_34 rfl ?_
        refine g_if_lt (tgt := 58) dX7_appeal_36 (by decide) (fun c36 => ?_) (fun c36 => ?_)
        · exfalso; omega
        · refine g_aload_n dX7_appeal_39 rfl ?_
          refine g_getA dX7_appeal_40 tf_7_46 rfl rfl (mrf hf rfl) ?_
          refine g_iload dX7_appeal_43 rfl ?_
          refine g_iload dX7_appeal_45 rfl ?_
          refine g_iadd dX7_appeal_47 rfl ⟨by omega, by omega⟩ ?_
          refine g_ialdN (3 * (10 * p + w) + 0) dX7_appeal_48 rfl (by omega) (by omega) ?_
          refine g_if_ge (tgt := 58) dX7_appeal_49 (by decide) (fun c49 => ?_) (fun c49 => ?_)
          · exact cm_appealT (by omega) σ hf hb hg v ha p w hp hw (by omega) x (by unfold apT; rw [if_neg n2, if_neg n1, if_pos (by omega)]; exact hx) (by omega)
          · refine g_iinc dX7_appeal_52 (by decide) rfl ⟨by omega, by omega⟩ rfl rfl ?_
            refine g_goto (tgt := 34) dX7_appeal_55 (by decide) ?_
            exact L0 _ (by omega) (by omega) n1 n2
      have L2 : ∀ x : Int, x = 1 → ¬ 0 ≤ hI σ 13 (3 * (10 * p + w) + 2) → am_Go lm d 7 7 1 cX7_appeal 34 [some (vR (some 0)), some (vI (p : Int)), some (vI (w : Int)), some (vI v), some (vI (3 * (10 * (p : Int) + (w : Int)))), some (vI x), none] [] σ (qI fun z s => (¬ (0 ≤ (p : Int) ∧ (p : Int) < hI σ 0 1 ∧ 0 ≤ (w : Int) ∧ (w : Int) < hI σ 0 2) ∧ z = -1 ∧ s = uI σ 1 1 (hI σ 1 1 + 1)) ∨ ((0 ≤ (p : Int) ∧ (p : Int) < hI σ 0 1 ∧ 0 ≤ (w : Int) ∧ (w : Int) < hI σ 0 2) ∧ ((hI σ 3 w = 3 ∨ apT σ p w < 0) ∧ z = -3 ∧ s = uI σ 1 3 (hI σ 1 3 + 1) ∨ ¬ (hI σ 3 w = 3 ∨ apT σ p w < 0) ∧ (v < 0 ∧ z = -4 ∧ s = uI σ 1 4 (hI σ 1 4 + 1) ∨ hI σ 4 w < v ∧ 0 ≤ v ∧ z = -6 ∧ s = uI σ 1 6 (hI σ 1 6 + 1) ∨ 0 ≤ v ∧ v ≤ hI σ 4 w ∧ z = hI σ 13 (3 * (10 * p + w) + (apT σ p w).toNat) ∧ s = uI (uI σ 13 (3 * (10 * p + w) + (apT σ p w).toNat) v) 0 6 (hI σ 0 6 + 1))))) := by
        intro x hx n2
        refine g_iload dX7_appeal_34 rfl ?_
        refine g_if_lt (tgt := 58) dX7_appeal_36 (by decide) (fun c36 => ?_) (fun c36 => ?_)
        · exfalso; omega
        · refine g_aload_n dX7_appeal_39 rfl ?_
          refine g_getA dX7_appeal_40 tf_7_46 rfl rfl (mrf hf rfl) ?_
          refine g_iload dX7_appeal_43 rfl ?_
          refine g_iload dX7_appeal_45 rfl ?_
          refine g_iadd dX7_appeal_47 rfl ⟨by omega, by omega⟩ ?_
          refine g_ialdN (3 * (10 * p + w) + 1) dX7_appeal_48 rfl (by omega) (by omega) ?_
          refine g_if_ge (tgt := 58) dX7_appeal_49 (by decide) (fun c49 => ?_) (fun c49 => ?_)
          · exact cm_appealT (by omega) σ hf hb hg v ha p w hp hw (by omega) x (by unfold apT; rw [if_neg n2, if_pos (by omega)]; exact hx) (by omega)
          · refine g_iinc dX7_appeal_52 (by decide) rfl ⟨by omega, by omega⟩ rfl rfl ?_
            refine g_goto (tgt := 34) dX7_appeal_55 (by decide) ?_
            exact L1 _ (by omega) (by omega) n2
      have L3 : ∀ x : Int, x = 2 → am_Go lm d 7 7 1 cX7_appeal 34 [some (vR (some 0)), some (vI (p : Int)), some (vI (w : Int)), some (vI v), some (vI (3 * (10 * (p : Int) + (w : Int)))), some (vI x), none] [] σ (qI fun z s => (¬ (0 ≤ (p : Int) ∧ (p : Int) < hI σ 0 1 ∧ 0 ≤ (w : Int) ∧ (w : Int) < hI σ 0 2) ∧ z = -1 ∧ s = uI σ 1 1 (hI σ 1 1 + 1)) ∨ ((0 ≤ (p : Int) ∧ (p : Int) < hI σ 0 1 ∧ 0 ≤ (w : Int) ∧ (w : Int) < hI σ 0 2) ∧ ((hI σ 3 w = 3 ∨ apT σ p w < 0) ∧ z = -3 ∧ s = uI σ 1 3 (hI σ 1 3 + 1) ∨ ¬ (hI σ 3 w = 3 ∨ apT σ p w < 0) ∧ (v < 0 ∧ z = -4 ∧ s = uI σ 1 4 (hI σ 1 4 + 1) ∨ hI σ 4 w < v ∧ 0 ≤ v ∧ z = -6 ∧ s = uI σ 1 6 (hI σ 1 6 + 1) ∨ 0 ≤ v ∧ v ≤ hI σ 4 w ∧ z = hI σ 13 (3 * (10 * p + w) + (apT σ p w).toNat) ∧ s = uI (uI σ 13 (3 * (10 * p + w) + (apT σ p w).toNat) v) 0 6 (hI σ 0 6 + 1))))) := by
        intro x hx 
        refine g_iload dX7_appeal_34 rfl ?_
        refine g_if_lt (tgt := 58) dX7_appeal_36 (by decide) (fun c36 => ?_) (fun c36 => ?_)
        · exfalso; omega
        · refine g_aload_n dX7_appeal_39 rfl ?_
          refine g_getA dX7_appeal_40 tf_7_46 rfl rfl (mrf hf rfl) ?_
          refine g_iload dX7_appeal_43 rfl ?_
          refine g_iload dX7_appeal_45 rfl ?_
          refine g_iadd dX7_appeal_47 rfl ⟨by omega, by omega⟩ ?_
          refine g_ialdN (3 * (10 * p + w) + 2) dX7_appeal_48 rfl (by omega) (by omega) ?_
          refine g_if_ge (tgt := 58) dX7_appeal_49 (by decide) (fun c49 => ?_) (fun c49 => ?_)
          · exact cm_appealT (by omega) σ hf hb hg v ha p w hp hw (by omega) x (by unfold apT; rw [if_pos (by omega)]; exact hx) (by omega)
          · refine g_iinc dX7_appeal_52 (by decide) rfl ⟨by omega, by omega⟩ rfl rfl ?_
            refine g_goto (tgt := 34) dX7_appeal_55 (by decide) ?_
            exact L2 _ (by omega) (by omega)
      exact L3 2 rfl
    · refine g_aload_n dX7_appeal_16 rfl ?_
      refine g_iconst dX7_appeal_17 ⟨by decide, by decide⟩ ?_
      refine g_callvI dX7_appeal_18 tm_7_133 rfl ⟨rfl, rfl⟩ rfl (Nat.le_of_ble_eq_true rfl) (cm_refuse (by omega) σ hf _ ⟨by omega, by omega⟩ hg.2.2) (fun z18 s18 h18 => ?_)
      obtain ⟨rfl, rfl⟩ := h18
      refine g_ireturn dX7_appeal_21 (Or.inl rfl) ⟨_, rfl, ?_⟩
      exact Or.inl ⟨by omega, rfl, rfl⟩

