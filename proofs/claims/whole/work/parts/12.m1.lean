/-! THE REFERENCE, small methods -/
theorem cm_isIn {D : Nat} (hD : 1 ≤ D) (σ : am_HS) (k n : Int) : am_Do lm D mX7_isIn σ [vI k, vI n] (qI fun z s => (z = 1 ∧ 0 ≤ k ∧ k < n ∨ z = 0 ∧ ¬ (0 ≤ k ∧ k < n)) ∧ s = σ) := by
  obtain ⟨d, rfl⟩ : ∃ d, D = d + 1 := ⟨D - 1, by omega⟩
  refine am_enter rfl rfl (Nat.le_of_ble_eq_true rfl) ?_
  refine g_iload_n dX7_isIn_0 rfl ?_
  refine g_if_lt (tgt := 13) dX7_isIn_1 (by decide) (fun c1 => ?_) (fun c1 => ?_)
  · refine g_iconst dX7_isIn_13 ⟨by decide, by decide⟩ ?_
    refine g_ireturn dX7_isIn_14 (Or.inr ⟨rfl, by omega⟩) ⟨_, rfl, ?_⟩
    exact ⟨by omega, rfl⟩
  · refine g_iload_n dX7_isIn_4 rfl ?_
    refine g_iload_n dX7_isIn_5 rfl ?_
    refine g_icmp_ge (tgt := 13) dX7_isIn_6 (by decide) (fun c6 => ?_) (fun c6 => ?_)
    · refine g_iconst dX7_isIn_13 ⟨by decide, by decide⟩ ?_
      refine g_ireturn dX7_isIn_14 (Or.inr ⟨rfl, by omega⟩) ⟨_, rfl, ?_⟩
      exact ⟨by omega, rfl⟩
    · refine g_iconst dX7_isIn_9 ⟨by decide, by decide⟩ ?_
      refine g_goto (tgt := 14) dX7_isIn_10 (by decide) ?_
      refine g_ireturn dX7_isIn_14 (Or.inr ⟨rfl, by omega⟩) ⟨_, rfl, ?_⟩
      exact ⟨by omega, rfl⟩

theorem cm_spot {D : Nat} (hD : 1 ≤ D) (σ : am_HS) (p w : Int) (hp : 0 ≤ p ∧ p ≤ 6) (hw : 0 ≤ w ∧ w ≤ 100) : am_Do lm D mX7_spot σ [vI p, vI w] (qI fun z s => z = 10 * p + w ∧ s = σ) := by
  obtain ⟨d, rfl⟩ : ∃ d, D = d + 1 := ⟨D - 1, by omega⟩
  refine am_enter rfl rfl (Nat.le_of_ble_eq_true rfl) ?_
  refine g_bipush dX7_spot_0 (by decide) ?_
  refine g_iload_n dX7_spot_2 rfl ?_
  refine g_imul dX7_spot_3 rfl ⟨by omega, by omega⟩ ?_
  refine g_iload_n dX7_spot_4 rfl ?_
  refine g_iadd dX7_spot_5 rfl ⟨by omega, by omega⟩ ?_
  refine g_ireturn dX7_spot_6 (Or.inl rfl) ⟨_, rfl, ?_⟩
  exact ⟨rfl, rfl⟩

theorem cm_isDigit {D : Nat} (hD : 1 ≤ D) (σ : am_HS) (k : Int) : am_Do lm D mX7_isDigit σ [vI k] (qI fun z s => (z = 1 ∧ 48 ≤ k ∧ k ≤ 57 ∨ z = 0 ∧ ¬ (48 ≤ k ∧ k ≤ 57)) ∧ s = σ) := by
  obtain ⟨d, rfl⟩ : ∃ d, D = d + 1 := ⟨D - 1, by omega⟩
  refine am_enter rfl rfl (Nat.le_of_ble_eq_true rfl) ?_
  refine g_iload_n dX7_isDigit_0 rfl ?_
  refine g_bipush dX7_isDigit_1 (by decide) ?_
  refine g_icmp_lt (tgt := 16) dX7_isDigit_3 (by decide) (fun c3 => ?_) (fun c3 => ?_)
  · refine g_iconst dX7_isDigit_16 ⟨by decide, by decide⟩ ?_
    refine g_ireturn dX7_isDigit_17 (Or.inr ⟨rfl, by omega⟩) ⟨_, rfl, ?_⟩
    exact ⟨by omega, rfl⟩
  · refine g_iload_n dX7_isDigit_6 rfl ?_
    refine g_bipush dX7_isDigit_7 (by decide) ?_
    refine g_icmp_gt (tgt := 16) dX7_isDigit_9 (by decide) (fun c9 => ?_) (fun c9 => ?_)
    · refine g_iconst dX7_isDigit_16 ⟨by decide, by decide⟩ ?_
      refine g_ireturn dX7_isDigit_17 (Or.inr ⟨rfl, by omega⟩) ⟨_, rfl, ?_⟩
      exact ⟨by omega, rfl⟩
    · refine g_iconst dX7_isDigit_12 ⟨by decide, by decide⟩ ?_
      refine g_goto (tgt := 17) dX7_isDigit_13 (by decide) ?_
      refine g_ireturn dX7_isDigit_17 (Or.inr ⟨rfl, by omega⟩) ⟨_, rfl, ?_⟩
      exact ⟨by omega, rfl⟩

theorem cm_isLetter {D : Nat} (hD : 1 ≤ D) (σ : am_HS) (k : Int) : am_Do lm D mX7_isLetter σ [vI k] (qI fun z s => (z = 1 ∧ 97 ≤ k ∧ k ≤ 122 ∨ z = 0 ∧ ¬ (97 ≤ k ∧ k ≤ 122)) ∧ s = σ) := by
  obtain ⟨d, rfl⟩ : ∃ d, D = d + 1 := ⟨D - 1, by omega⟩
  refine am_enter rfl rfl (Nat.le_of_ble_eq_true rfl) ?_
  refine g_iload_n dX7_isLetter_0 rfl ?_
  refine g_bipush dX7_isLetter_1 (by decide) ?_
  refine g_icmp_lt (tgt := 16) dX7_isLetter_3 (by decide) (fun c3 => ?_) (fun c3 => ?_)
  · refine g_iconst dX7_isLetter_16 ⟨by decide, by decide⟩ ?_
    refine g_ireturn dX7_isLetter_17 (Or.inr ⟨rfl, by omega⟩) ⟨_, rfl, ?_⟩
    exact ⟨by omega, rfl⟩
  · refine g_iload_n dX7_isLetter_6 rfl ?_
    refine g_bipush dX7_isLetter_7 (by decide) ?_
    refine g_icmp_gt (tgt := 16) dX7_isLetter_9 (by decide) (fun c9 => ?_) (fun c9 => ?_)
    · refine g_iconst dX7_isLetter_16 ⟨by decide, by decide⟩ ?_
      refine g_ireturn dX7_isLetter_17 (Or.inr ⟨rfl, by omega⟩) ⟨_, rfl, ?_⟩
      exact ⟨by omega, rfl⟩
    · refine g_iconst dX7_isLetter_12 ⟨by decide, by decide⟩ ?_
      refine g_goto (tgt := 17) dX7_isLetter_13 (by decide) ?_
      refine g_ireturn dX7_isLetter_17 (Or.inr ⟨rfl, by omega⟩) ⟨_, rfl, ?_⟩
      exact ⟨by omega, rfl⟩

theorem cm_isPupil {D : Nat} (hD : 2 ≤ D) (σ : am_HS) (p : Int) : am_Do lm D mX7_isPupil σ [vR (some 0), vI p] (qI fun z s => (z = 1 ∧ 0 ≤ p ∧ p < hI σ 0 1 ∨ z = 0 ∧ ¬ (0 ≤ p ∧ p < hI σ 0 1)) ∧ s = σ) := by
  obtain ⟨d, rfl⟩ : ∃ d, D = d + 1 := ⟨D - 1, by omega⟩
  refine am_enter rfl rfl (Nat.le_of_ble_eq_true rfl) ?_
  refine g_iload_n dX7_isPupil_0 rfl ?_
  refine g_aload_n dX7_isPupil_1 rfl ?_
  refine g_getI dX7_isPupil_2 tf_7_137 rfl rfl ?_
  refine g_callsI dX7_isPupil_5 tm_7_141 rfl ⟨Nat.le_of_ble_eq_true rfl, rfl, rfl⟩ (Nat.le_of_ble_eq_true rfl) (cm_isIn (by omega) σ _ _) (fun z5 s5 h5 => ?_)
  obtain ⟨h5, e5⟩ := h5
  obtain rfl := e5.symm
  refine g_ireturn dX7_isPupil_8 (Or.inr ⟨rfl, by omega⟩) ⟨_, rfl, ?_⟩
  exact ⟨by omega, rfl⟩

theorem cm_isWork {D : Nat} (hD : 2 ≤ D) (σ : am_HS) (p : Int) : am_Do lm D mX7_isWork σ [vR (some 0), vI p] (qI fun z s => (z = 1 ∧ 0 ≤ p ∧ p < hI σ 0 2 ∨ z = 0 ∧ ¬ (0 ≤ p ∧ p < hI σ 0 2)) ∧ s = σ) := by
  obtain ⟨d, rfl⟩ : ∃ d, D = d + 1 := ⟨D - 1, by omega⟩
  refine am_enter rfl rfl (Nat.le_of_ble_eq_true rfl) ?_
  refine g_iload_n dX7_isWork_0 rfl ?_
  refine g_aload_n dX7_isWork_1 rfl ?_
  refine g_getI dX7_isWork_2 tf_7_145 rfl rfl ?_
  refine g_callsI dX7_isWork_5 tm_7_141 rfl ⟨Nat.le_of_ble_eq_true rfl, rfl, rfl⟩ (Nat.le_of_ble_eq_true rfl) (cm_isIn (by omega) σ _ _) (fun z5 s5 h5 => ?_)
  obtain ⟨h5, e5⟩ := h5
  obtain rfl := e5.symm
  refine g_ireturn dX7_isWork_8 (Or.inr ⟨rfl, by omega⟩) ⟨_, rfl, ?_⟩
  exact ⟨by omega, rfl⟩

theorem cm_isRule {D : Nat} (hD : 2 ≤ D) (σ : am_HS) (hf : σ.2.2 = mH) (hnow : 0 ≤ hI σ 0 42 ∧ hI σ 0 42 < 2) (p : Int) : am_Do lm D mX7_isRule σ [vR (some 0), vI p] (qI fun z s => (z = 1 ∧ 0 ≤ p ∧ p < hI σ 23 (hI σ 0 42).toNat ∨ z = 0 ∧ ¬ (0 ≤ p ∧ p < hI σ 23 (hI σ 0 42).toNat)) ∧ s = σ) := by
  obtain ⟨d, rfl⟩ : ∃ d, D = d + 1 := ⟨D - 1, by omega⟩
  refine am_enter rfl rfl (Nat.le_of_ble_eq_true rfl) ?_
  refine g_iload_n dX7_isRule_0 rfl ?_
  refine g_aload_n dX7_isRule_1 rfl ?_
  refine g_getA dX7_isRule_2 tf_7_77 rfl rfl (mrf hf rfl) ?_
  refine g_aload_n dX7_isRule_5 rfl ?_
  refine g_getI dX7_isRule_6 tf_7_148 rfl rfl ?_
  refine g_iald dX7_isRule_9 rfl ⟨by omega, by omega⟩ ?_
  refine g_callsI dX7_isRule_10 tm_7_141 rfl ⟨Nat.le_of_ble_eq_true rfl, rfl, rfl⟩ (Nat.le_of_ble_eq_true rfl) (cm_isIn (by omega) σ _ _) (fun z10 s10 h10 => ?_)
  obtain ⟨h10, e10⟩ := h10
  obtain rfl := e10.symm
  refine g_ireturn dX7_isRule_13 (Or.inr ⟨rfl, by omega⟩) ⟨_, rfl, ?_⟩
  exact ⟨by omega, rfl⟩

theorem cm_refuse {D : Nat} (hD : 1 ≤ D) (σ : am_HS) (hf : σ.2.2 = mH) (c : Int) (hc : -7 ≤ c ∧ c ≤ 0) (hrf : ∀ k, k < 8 → 0 ≤ hI σ 1 k ∧ hI σ 1 k ≤ 100000) : am_Do lm D mX7_refuse σ [vR (some 0), vI c] (qI fun z s => z = c ∧ s = uI σ 1 (-c).toNat (hI σ 1 (-c).toNat + 1)) := by
  obtain ⟨d, rfl⟩ : ∃ d, D = d + 1 := ⟨D - 1, by omega⟩
  refine am_enter rfl rfl (Nat.le_of_ble_eq_true rfl) ?_
  refine g_aload_n dX7_refuse_0 rfl ?_
  refine g_getA dX7_refuse_1 tf_7_7 rfl rfl (mrf hf rfl) ?_
  refine g_iload_n dX7_refuse_4 rfl ?_
  refine g_ineg dX7_refuse_5 rfl ⟨by omega, by omega⟩ ?_
  refine g_dup2_11 dX7_refuse_6 rfl rfl ?_
  refine g_iald dX7_refuse_7 rfl ⟨by omega, by omega⟩ ?_
  refine g_iconst dX7_refuse_8 ⟨by decide, by decide⟩ ?_
  refine g_iadd dX7_refuse_9 rfl ⟨by have := hrf (-c).toNat (by omega); omega, by have := hrf (-c).toNat (by omega); omega⟩ ?_
  refine g_iast dX7_refuse_10 rfl ⟨by omega, by omega⟩ ?_
  refine g_iload_n dX7_refuse_11 rfl ?_
  refine g_ireturn dX7_refuse_12 (Or.inl rfl) ⟨_, rfl, ?_⟩
  exact ⟨rfl, rfl⟩

theorem cm_refuseFar {D : Nat} (hD : 2 ≤ D) (σ : am_HS) (hf : σ.2.2 = mH) (c : Int) (hc : -7 ≤ c ∧ c ≤ 0) (hrf : ∀ k, k < 8 → 0 ≤ hI σ 1 k ∧ hI σ 1 k ≤ 100000) : am_Do lm D mX7_refuseFar σ [vR (some 0), vI c] (qI fun z s => z = 2000000000 - c ∧ s = uI σ 1 (-c).toNat (hI σ 1 (-c).toNat + 1)) := by
  obtain ⟨d, rfl⟩ : ∃ d, D = d + 1 := ⟨D - 1, by omega⟩
  refine am_enter rfl rfl (Nat.le_of_ble_eq_true rfl) ?_
  refine g_ldc dX7_refuseFar_0 ti_7_132 ⟨by decide, by decide⟩ ?_
  refine g_aload_n dX7_refuseFar_2 rfl ?_
  refine g_iload_n dX7_refuseFar_3 rfl ?_
  refine g_callvI dX7_refuseFar_4 tm_7_133 rfl ⟨rfl, rfl⟩ rfl (Nat.le_of_ble_eq_true rfl) (cm_refuse (by omega) σ hf _ ⟨by omega, by omega⟩ hrf) (fun z4 s4 h4 => ?_)
  obtain ⟨rfl, rfl⟩ := h4
  refine g_isub dX7_refuseFar_7 rfl ⟨by omega, by omega⟩ ?_
  refine g_ireturn dX7_refuseFar_8 (Or.inl rfl) ⟨_, rfl, ?_⟩
  exact ⟨rfl, rfl⟩

theorem cm_refusesText {D : Nat} (hD : 1 ≤ D) (σ : am_HS) (c : Int) (hr : 0 ≤ hI σ 0 7 ∧ hI σ 0 7 ≤ 100000) : am_Do lm D mX7_refusesText σ [vR (some 0), vI c] (qI fun z s => z = c ∧ s = uI σ 0 7 (hI σ 0 7 + 1)) := by
  obtain ⟨d, rfl⟩ : ∃ d, D = d + 1 := ⟨D - 1, by omega⟩
  refine am_enter rfl rfl (Nat.le_of_ble_eq_true rfl) ?_
  refine g_aload_n dX7_refusesText_0 rfl ?_
  refine g_dup dX7_refusesText_1 rfl ?_
  refine g_getI dX7_refusesText_2 tf_7_262 rfl rfl ?_
  refine g_iconst dX7_refusesText_5 ⟨by decide, by decide⟩ ?_
  refine g_iadd dX7_refusesText_6 rfl ⟨by omega, by omega⟩ ?_
  refine g_putI dX7_refusesText_7 tf_7_262 rfl rfl rfl ?_
  refine g_iload_n dX7_refusesText_10 rfl ?_
  refine g_ireturn dX7_refusesText_11 (Or.inl rfl) ⟨_, rfl, ?_⟩
  exact ⟨rfl, rfl⟩

theorem cm_pupil {D : Nat} (hD : 2 ≤ D) (σ : am_HS) (hf : σ.2.2 = mH) (hp : 0 ≤ hI σ 0 1 ∧ hI σ 0 1 ≤ 6) (hrf : ∀ k, k < 8 → 0 ≤ hI σ 1 k ∧ hI σ 1 k ≤ 100000) : am_Do lm D mX7_pupil σ [vR (some 0)] (qI fun z s => (hI σ 0 1 = 6 ∧ z = -6 ∧ s = uI σ 1 6 (hI σ 1 6 + 1)) ∨ (hI σ 0 1 < 6 ∧ z = hI σ 0 1 ∧ s = uI σ 0 1 (hI σ 0 1 + 1))) := by
  obtain ⟨d, rfl⟩ : ∃ d, D = d + 1 := ⟨D - 1, by omega⟩
  refine am_enter rfl rfl (Nat.le_of_ble_eq_true rfl) ?_
  refine g_aload_n dX7_pupil_0 rfl ?_
  refine g_getI dX7_pupil_1 tf_7_137 rfl rfl ?_
  refine g_bipush dX7_pupil_4 (by decide) ?_
  refine g_icmp_ne (tgt := 16) dX7_pupil_6 (by decide) (fun c6 => ?_) (fun c6 => ?_)
  · refine g_aload_n dX7_pupil_16 rfl ?_
    refine g_dup dX7_pupil_17 rfl ?_
    refine g_getI dX7_pupil_18 tf_7_137 rfl rfl ?_
    refine g_iconst dX7_pupil_21 ⟨by decide, by decide⟩ ?_
    refine g_iadd dX7_pupil_22 rfl ⟨by omega, by omega⟩ ?_
    refine g_putI dX7_pupil_23 tf_7_137 rfl rfl rfl ?_
    refine g_aload_n dX7_pupil_26 rfl ?_
    refine g_getI dX7_pupil_27 tf_7_137 rfl rfl ?_
    refine g_iconst dX7_pupil_30 ⟨by decide, by decide⟩ ?_
    refine g_isub dX7_pupil_31 rfl (by rw [hI_uI_e ⟨by omega, by omega⟩]; exact ⟨by omega, by omega⟩) ?_
    refine g_ireturn dX7_pupil_32 (Or.inl rfl) ⟨_, rfl, ?_⟩
    first | exact Or.inl ⟨by omega, rfl, rfl⟩ | (refine Or.inr ⟨by omega, ?_, rfl⟩; rw [hI_uI_e ⟨by omega, by omega⟩]; omega)
  · refine g_aload_n dX7_pupil_9 rfl ?_
    refine g_bipush dX7_pupil_10 (by decide) ?_
    refine g_callvI dX7_pupil_12 tm_7_133 rfl ⟨rfl, rfl⟩ rfl (Nat.le_of_ble_eq_true rfl) (cm_refuse (by omega) σ hf _ ⟨by omega, by omega⟩ hrf) (fun z12 s12 h12 => ?_)
    obtain ⟨rfl, rfl⟩ := h12
    refine g_ireturn dX7_pupil_15 (Or.inl rfl) ⟨_, rfl, ?_⟩
    first | exact Or.inl ⟨by omega, rfl, rfl⟩ | (refine Or.inr ⟨by omega, ?_, rfl⟩; rw [hI_uI_e ⟨by omega, by omega⟩]; omega)

theorem cm_group {D : Nat} (hD : 3 ≤ D) (σ : am_HS) (hf : σ.2.2 = mH) (hp : 0 ≤ hI σ 0 1 ∧ hI σ 0 1 ≤ 6) (hrf : ∀ k, k < 8 → 0 ≤ hI σ 1 k ∧ hI σ 1 k ≤ 100000) (p g : Int) : am_Do lm D mX7_group σ [vR (some 0), vI p, vI g] (qI fun z s => (¬ (0 ≤ p ∧ p < hI σ 0 1 ∧ 0 ≤ g ∧ g < 6) ∧ z = -1 ∧ s = uI σ 1 1 (hI σ 1 1 + 1)) ∨ ((0 ≤ p ∧ p < hI σ 0 1 ∧ 0 ≤ g ∧ g < 6) ∧ z = hI σ 2 p.toNat ∧ s = uI σ 2 p.toNat g)) := by
  obtain ⟨d, rfl⟩ : ∃ d, D = d + 1 := ⟨D - 1, by omega⟩
  refine am_enter rfl rfl (Nat.le_of_ble_eq_true rfl) ?_
  refine g_aload_n dX7_group_0 rfl ?_
  refine g_iload_n dX7_group_1 rfl ?_
  refine g_callvI dX7_group_2 tm_7_151 rfl ⟨rfl, rfl⟩ rfl (Nat.le_of_ble_eq_true rfl) (cm_isPupil (by omega) σ _) (fun z2 s2 h2 => ?_)
  obtain ⟨h2, e2⟩ := h2
  obtain rfl := e2.symm
  refine g_if_eq (tgt := 17) dX7_group_5 (by decide) (fun c5 => ?_) (fun c5 => ?_)
  · refine g_aload_n dX7_group_17 rfl ?_
    refine g_iconst dX7_group_18 ⟨by decide, by decide⟩ ?_
    refine g_callvI dX7_group_19 tm_7_133 rfl ⟨rfl, rfl⟩ rfl (Nat.le_of_ble_eq_true rfl) (cm_refuse (by omega) σ hf _ ⟨by omega, by omega⟩ hrf) (fun z19 s19 h19 => ?_)
    obtain ⟨rfl, rfl⟩ := h19
    refine g_ireturn dX7_group_22 (Or.inl rfl) ⟨_, rfl, ?_⟩
    first | exact Or.inl ⟨by omega, rfl, rfl⟩ | exact Or.inr ⟨by omega, rfl, rfl⟩
  · refine g_iload_n dX7_group_8 rfl ?_
    refine g_bipush dX7_group_9 (by decide) ?_
    refine g_callsI dX7_group_11 tm_7_141 rfl ⟨Nat.le_of_ble_eq_true rfl, rfl, rfl⟩ (Nat.le_of_ble_eq_true rfl) (cm_isIn (by omega) σ _ _) (fun z11 s11 h11 => ?_)
    obtain ⟨h11, e11⟩ := h11
    obtain rfl := e11.symm
    refine g_if_ne (tgt := 23) dX7_group_14 (by decide) (fun c14 => ?_) (fun c14 => ?_)
    · refine g_aload_n dX7_group_23 rfl ?_
      refine g_getA dX7_group_24 tf_7_13 rfl rfl (mrf hf rfl) ?_
      refine g_iload_n dX7_group_27 rfl ?_
      refine g_iald dX7_group_28 rfl ⟨by omega, by omega⟩ ?_
      refine g_istore_n dX7_group_29 (by decide) rfl ?_
      refine g_aload_n dX7_group_30 rfl ?_
      refine g_getA dX7_group_31 tf_7_13 rfl rfl (mrf hf rfl) ?_
      refine g_iload_n dX7_group_34 rfl ?_
      refine g_iload_n dX7_group_35 rfl ?_
      refine g_iast dX7_group_36 rfl ⟨by omega, by omega⟩ ?_
      refine g_iload_n dX7_group_37 rfl ?_
      refine g_ireturn dX7_group_38 (Or.inl rfl) ⟨_, rfl, ?_⟩
      first | exact Or.inl ⟨by omega, rfl, rfl⟩ | exact Or.inr ⟨by omega, rfl, rfl⟩
    · refine g_aload_n dX7_group_17 rfl ?_
      refine g_iconst dX7_group_18 ⟨by decide, by decide⟩ ?_
      refine g_callvI dX7_group_19 tm_7_133 rfl ⟨rfl, rfl⟩ rfl (Nat.le_of_ble_eq_true rfl) (cm_refuse (by omega) σ hf _ ⟨by omega, by omega⟩ hrf) (fun z19 s19 h19 => ?_)
      obtain ⟨rfl, rfl⟩ := h19
      refine g_ireturn dX7_group_22 (Or.inl rfl) ⟨_, rfl, ?_⟩
      first | exact Or.inl ⟨by omega, rfl, rfl⟩ | exact Or.inr ⟨by omega, rfl, rfl⟩

theorem cm_leave {D : Nat} (hD : 3 ≤ D) (σ : am_HS) (hf : σ.2.2 = mH) (hp : 0 ≤ hI σ 0 1 ∧ hI σ 0 1 ≤ 6) (hw : 0 ≤ hI σ 0 2 ∧ hI σ 0 2 ≤ 10) (hrf : ∀ k, k < 8 → 0 ≤ hI σ 1 k ∧ hI σ 1 k ≤ 100000) (p w t : Int) : am_Do lm D mX7_leave σ [vR (some 0), vI p, vI w, vI t] (qI fun z s => (¬ (0 ≤ p ∧ p < hI σ 0 1 ∧ 0 ≤ w ∧ w < hI σ 0 2) ∧ z = -1 ∧ s = uI σ 1 1 (hI σ 1 1 + 1)) ∨ ((0 ≤ p ∧ p < hI σ 0 1 ∧ 0 ≤ w ∧ w < hI σ 0 2) ∧ ((t < 0 ∧ z = -4 ∧ s = uI σ 1 4 (hI σ 1 4 + 1)) ∨ (1000 < t ∧ z = -6 ∧ s = uI σ 1 6 (hI σ 1 6 + 1)) ∨ (0 ≤ t ∧ t ≤ 1000 ∧ z = hI σ 9 (10 * p + w).toNat ∧ s = uI σ 9 (10 * p + w).toNat t)))) := by
  obtain ⟨d, rfl⟩ : ∃ d, D = d + 1 := ⟨D - 1, by omega⟩
  refine am_enter rfl rfl (Nat.le_of_ble_eq_true rfl) ?_
  refine g_aload_n dX7_leave_0 rfl ?_
  refine g_iload_n dX7_leave_1 rfl ?_
  refine g_callvI dX7_leave_2 tm_7_151 rfl ⟨rfl, rfl⟩ rfl (Nat.le_of_ble_eq_true rfl) (cm_isPupil (by omega) σ _) (fun z2 s2 h2 => ?_)
  obtain ⟨h2, e2⟩ := h2
  obtain rfl := e2.symm
  refine g_if_eq (tgt := 16) dX7_leave_5 (by decide) (fun c5 => ?_) (fun c5 => ?_)
  · refine g_aload_n dX7_leave_16 rfl ?_
    refine g_iconst dX7_leave_17 ⟨by decide, by decide⟩ ?_
    refine g_callvI dX7_leave_18 tm_7_133 rfl ⟨rfl, rfl⟩ rfl (Nat.le_of_ble_eq_true rfl) (cm_refuse (by omega) σ hf _ ⟨by omega, by omega⟩ hrf) (fun z18 s18 h18 => ?_)
    obtain ⟨rfl, rfl⟩ := h18
    refine g_ireturn dX7_leave_21 (Or.inl rfl) ⟨_, rfl, ?_⟩
    first | exact Or.inl ⟨by omega, rfl, rfl⟩ | exact Or.inr ⟨by omega, Or.inl ⟨by omega, rfl, rfl⟩⟩ | exact Or.inr ⟨by omega, Or.inr (Or.inl ⟨by omega, rfl, rfl⟩)⟩ | exact Or.inr ⟨by omega, Or.inr (Or.inr ⟨by omega, by omega, rfl, rfl⟩)⟩
  · refine g_aload_n dX7_leave_8 rfl ?_
    refine g_iload_n dX7_leave_9 rfl ?_
    refine g_callvI dX7_leave_10 tm_7_156 rfl ⟨rfl, rfl⟩ rfl (Nat.le_of_ble_eq_true rfl) (cm_isWork (by omega) σ _) (fun z10 s10 h10 => ?_)
    obtain ⟨h10, e10⟩ := h10
    obtain rfl := e10.symm
    refine g_if_ne (tgt := 22) dX7_leave_13 (by decide) (fun c13 => ?_) (fun c13 => ?_)
    · refine g_iload_n dX7_leave_22 rfl ?_
      refine g_if_ge (tgt := 33) dX7_leave_23 (by decide) (fun c23 => ?_) (fun c23 => ?_)
      · refine g_iload_n dX7_leave_33 rfl ?_
        refine g_sipush dX7_leave_34 (by decide) ?_
        refine g_icmp_le (tgt := 47) dX7_leave_37 (by decide) (fun c37 => ?_) (fun c37 => ?_)
        · refine g_aload_n dX7_leave_47 rfl ?_
          refine g_getA dX7_leave_48 tf_7_34 rfl rfl (mrf hf rfl) ?_
          refine g_iload_n dX7_leave_51 rfl ?_
          refine g_iload_n dX7_leave_52 rfl ?_
          refine g_callsI dX7_leave_53 tm_7_159 rfl ⟨Nat.le_of_ble_eq_true rfl, rfl, rfl⟩ (Nat.le_of_ble_eq_true rfl) (cm_spot (by omega) σ _ _ ⟨by omega, by omega⟩ ⟨by omega, by omega⟩) (fun z53 s53 h53 => ?_)
          obtain ⟨rfl, e53⟩ := h53
          obtain rfl := e53.symm
          refine g_iald dX7_leave_56 rfl ⟨by omega, by omega⟩ ?_
          refine g_istore dX7_leave_57 (by decide) rfl ?_
          refine g_aload_n dX7_leave_59 rfl ?_
          refine g_getA dX7_leave_60 tf_7_34 rfl rfl (mrf hf rfl) ?_
          refine g_iload_n dX7_leave_63 rfl ?_
          refine g_iload_n dX7_leave_64 rfl ?_
          refine g_callsI dX7_leave_65 tm_7_159 rfl ⟨Nat.le_of_ble_eq_true rfl, rfl, rfl⟩ (Nat.le_of_ble_eq_true rfl) (cm_spot (by omega) σ _ _ ⟨by omega, by omega⟩ ⟨by omega, by omega⟩) (fun z65 s65 h65 => ?_)
          obtain ⟨rfl, e65⟩ := h65
          obtain rfl := e65.symm
          refine g_iload_n dX7_leave_68 rfl ?_
          refine g_iast dX7_leave_69 rfl ⟨by omega, by omega⟩ ?_
          refine g_iload dX7_leave_70 rfl ?_
          refine g_ireturn dX7_leave_72 (Or.inl rfl) ⟨_, rfl, ?_⟩
          first | exact Or.inl ⟨by omega, rfl, rfl⟩ | exact Or.inr ⟨by omega, Or.inl ⟨by omega, rfl, rfl⟩⟩ | exact Or.inr ⟨by omega, Or.inr (Or.inl ⟨by omega, rfl, rfl⟩)⟩ | exact Or.inr ⟨by omega, Or.inr (Or.inr ⟨by omega, by omega, rfl, rfl⟩)⟩
        · refine g_aload_n dX7_leave_40 rfl ?_
          refine g_bipush dX7_leave_41 (by decide) ?_
          refine g_callvI dX7_leave_43 tm_7_133 rfl ⟨rfl, rfl⟩ rfl (Nat.le_of_ble_eq_true rfl) (cm_refuse (by omega) σ hf _ ⟨by omega, by omega⟩ hrf) (fun z43 s43 h43 => ?_)
          obtain ⟨rfl, rfl⟩ := h43
          refine g_ireturn dX7_leave_46 (Or.inl rfl) ⟨_, rfl, ?_⟩
          first | exact Or.inl ⟨by omega, rfl, rfl⟩ | exact Or.inr ⟨by omega, Or.inl ⟨by omega, rfl, rfl⟩⟩ | exact Or.inr ⟨by omega, Or.inr (Or.inl ⟨by omega, rfl, rfl⟩)⟩ | exact Or.inr ⟨by omega, Or.inr (Or.inr ⟨by omega, by omega, rfl, rfl⟩)⟩
      · refine g_aload_n dX7_leave_26 rfl ?_
        refine g_bipush dX7_leave_27 (by decide) ?_
        refine g_callvI dX7_leave_29 tm_7_133 rfl ⟨rfl, rfl⟩ rfl (Nat.le_of_ble_eq_true rfl) (cm_refuse (by omega) σ hf _ ⟨by omega, by omega⟩ hrf) (fun z29 s29 h29 => ?_)
        obtain ⟨rfl, rfl⟩ := h29
        refine g_ireturn dX7_leave_32 (Or.inl rfl) ⟨_, rfl, ?_⟩
        first | exact Or.inl ⟨by omega, rfl, rfl⟩ | exact Or.inr ⟨by omega, Or.inl ⟨by omega, rfl, rfl⟩⟩ | exact Or.inr ⟨by omega, Or.inr (Or.inl ⟨by omega, rfl, rfl⟩)⟩ | exact Or.inr ⟨by omega, Or.inr (Or.inr ⟨by omega, by omega, rfl, rfl⟩)⟩
    · refine g_aload_n dX7_leave_16 rfl ?_
      refine g_iconst dX7_leave_17 ⟨by decide, by decide⟩ ?_
      refine g_callvI dX7_leave_18 tm_7_133 rfl ⟨rfl, rfl⟩ rfl (Nat.le_of_ble_eq_true rfl) (cm_refuse (by omega) σ hf _ ⟨by omega, by omega⟩ hrf) (fun z18 s18 h18 => ?_)
      obtain ⟨rfl, rfl⟩ := h18
      refine g_ireturn dX7_leave_21 (Or.inl rfl) ⟨_, rfl, ?_⟩
      first | exact Or.inl ⟨by omega, rfl, rfl⟩ | exact Or.inr ⟨by omega, Or.inl ⟨by omega, rfl, rfl⟩⟩ | exact Or.inr ⟨by omega, Or.inr (Or.inl ⟨by omega, rfl, rfl⟩)⟩ | exact Or.inr ⟨by omega, Or.inr (Or.inr ⟨by omega, by omega, rfl, rfl⟩)⟩

theorem cm_tick {D : Nat} (hD : 2 ≤ D) (σ : am_HS) (hf : σ.2.2 = mH) (ht : 0 ≤ hI σ 0 3 ∧ hI σ 0 3 ≤ 100000) (hrf : ∀ k, k < 8 → 0 ≤ hI σ 1 k ∧ hI σ 1 k ≤ 100000) (n : Int) : am_Do lm D mX7_tick σ [vR (some 0), vI n] (qI fun z s => (n < 1 ∧ z = -4 ∧ s = uI σ 1 4 (hI σ 1 4 + 1)) ∨ (1 ≤ n ∧ 100000 - hI σ 0 3 < n ∧ z = -6 ∧ s = uI σ 1 6 (hI σ 1 6 + 1)) ∨ (1 ≤ n ∧ n ≤ 100000 - hI σ 0 3 ∧ z = hI σ 0 3 + n ∧ s = uI σ 0 3 (hI σ 0 3 + n))) := by
  obtain ⟨d, rfl⟩ : ∃ d, D = d + 1 := ⟨D - 1, by omega⟩
  refine am_enter rfl rfl (Nat.le_of_ble_eq_true rfl) ?_
  refine g_iload_n dX7_tick_0 rfl ?_
  refine g_iconst dX7_tick_1 ⟨by decide, by decide⟩ ?_
  refine g_icmp_ge (tgt := 12) dX7_tick_2 (by decide) (fun c2 => ?_) (fun c2 => ?_)
  · refine g_iload_n dX7_tick_12 rfl ?_
    refine g_ldc dX7_tick_13 ti_7_155 ⟨by decide, by decide⟩ ?_
    refine g_aload_n dX7_tick_15 rfl ?_
    refine g_getI dX7_tick_16 tf_7_163 rfl rfl ?_
    refine g_isub dX7_tick_19 rfl ⟨by omega, by omega⟩ ?_
    refine g_icmp_le (tgt := 30) dX7_tick_20 (by decide) (fun c20 => ?_) (fun c20 => ?_)
    · refine g_aload_n dX7_tick_30 rfl ?_
      refine g_dup dX7_tick_31 rfl ?_
      refine g_getI dX7_tick_32 tf_7_163 rfl rfl ?_
      refine g_iload_n dX7_tick_35 rfl ?_
      refine g_iadd dX7_tick_36 rfl ⟨by omega, by omega⟩ ?_
      refine g_putI dX7_tick_37 tf_7_163 rfl rfl rfl ?_
      refine g_aload_n dX7_tick_40 rfl ?_
      refine g_getI dX7_tick_41 tf_7_163 rfl rfl ?_
      refine g_ireturn dX7_tick_44 (Or.inl rfl) ⟨_, rfl, ?_⟩
      first | exact Or.inl ⟨by omega, rfl, rfl⟩ | exact Or.inr (Or.inl ⟨by omega, by omega, rfl, rfl⟩) | exact Or.inr (Or.inr ⟨by omega, by omega, by rw [hI_uI_e ⟨by omega, by omega⟩], rfl⟩)
    · refine g_aload_n dX7_tick_23 rfl ?_
      refine g_bipush dX7_tick_24 (by decide) ?_
      refine g_callvI dX7_tick_26 tm_7_133 rfl ⟨rfl, rfl⟩ rfl (Nat.le_of_ble_eq_true rfl) (cm_refuse (by omega) σ hf _ ⟨by omega, by omega⟩ hrf) (fun z26 s26 h26 => ?_)
      obtain ⟨rfl, rfl⟩ := h26
      refine g_ireturn dX7_tick_29 (Or.inl rfl) ⟨_, rfl, ?_⟩
      first | exact Or.inl ⟨by omega, rfl, rfl⟩ | exact Or.inr (Or.inl ⟨by omega, by omega, rfl, rfl⟩) | exact Or.inr (Or.inr ⟨by omega, by omega, by rw [hI_uI_e ⟨by omega, by omega⟩], rfl⟩)
  · refine g_aload_n dX7_tick_5 rfl ?_
    refine g_bipush dX7_tick_6 (by decide) ?_
    refine g_callvI dX7_tick_8 tm_7_133 rfl ⟨rfl, rfl⟩ rfl (Nat.le_of_ble_eq_true rfl) (cm_refuse (by omega) σ hf _ ⟨by omega, by omega⟩ hrf) (fun z8 s8 h8 => ?_)
    obtain ⟨rfl, rfl⟩ := h8
    refine g_ireturn dX7_tick_11 (Or.inl rfl) ⟨_, rfl, ?_⟩
    first | exact Or.inl ⟨by omega, rfl, rfl⟩ | exact Or.inr (Or.inl ⟨by omega, by omega, rfl, rfl⟩) | exact Or.inr (Or.inr ⟨by omega, by omega, by rw [hI_uI_e ⟨by omega, by omega⟩], rfl⟩)
