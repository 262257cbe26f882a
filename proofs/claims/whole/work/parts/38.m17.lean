/-! THE REFERENCE: calls that put and read -/
theorem cm_work {D : Nat} (hD : 4 ≤ D) (σ : am_HS) (hf : σ.2.2 = mH) (hb : rgM σ) (hg : GM σ) (k m t l : Int) : am_Do lm D mX7_work σ [vR (some 0), vI k, vI m, vI t, vI l] (qI fun z s => (¬ (0 ≤ k ∧ k < 4) ∧ z = -1 ∧ s = uI σ 1 1 (hI σ 1 1 + 1)) ∨ ((0 ≤ k ∧ k < 4) ∧ (m < 1 ∨ t < 0 ∨ l < 0) ∧ z = -4 ∧ s = uI σ 1 4 (hI σ 1 4 + 1)) ∨ ((0 ≤ k ∧ k < 4) ∧ ¬ (m < 1 ∨ t < 0 ∨ l < 0) ∧ (20 < m ∨ 100000 < t ∨ 100 < l ∨ hI σ 0 2 = 10) ∧ z = -6 ∧ s = uI σ 1 6 (hI σ 1 6 + 1)) ∨ ((0 ≤ k ∧ k < 4) ∧ ¬ (m < 1 ∨ t < 0 ∨ l < 0) ∧ ¬ (20 < m ∨ 100000 < t ∨ 100 < l ∨ hI σ 0 2 = 10) ∧ z = hI σ 0 2 ∧ s = uI (uI (uI (uI (uI σ 3 (hI σ 0 2).toNat k) 4 (hI σ 0 2).toNat m) 5 (hI σ 0 2).toNat t) 6 (hI σ 0 2).toNat l) 0 2 (hI σ 0 2 + 1))) := by
  obtain ⟨hg1, hg2, hrf⟩ := id hg
  obtain ⟨W, hW⟩ : ∃ W : Nat, hI σ 0 2 = (W : Int) := ⟨(hI σ 0 2).toNat, by omega⟩
  have hWn : (hI σ 0 2).toNat = W := by omega
  obtain ⟨d, rfl⟩ : ∃ d, D = d + 1 := ⟨D - 1, by omega⟩
  refine am_enter rfl rfl (Nat.le_of_ble_eq_true rfl) ?_
  refine g_iload_n dX7_work_0 rfl ?_
  refine g_iconst dX7_work_1 ⟨by decide, by decide⟩ ?_
  refine g_callsI dX7_work_2 tm_7_141 rfl ⟨Nat.le_of_ble_eq_true rfl, rfl, rfl⟩ (Nat.le_of_ble_eq_true rfl) (cm_isIn (by omega) σ _ _) (fun z2 s2 h2 => ?_)
  obtain ⟨h2, e2⟩ := h2
  obtain rfl := e2.symm
  refine g_if_ne (tgt := 14) dX7_work_5 (by decide) (fun c5 => ?_) (fun c5 => ?_)
  · refine g_iload_n dX7_work_14 rfl ?_
    refine g_iconst dX7_work_15 ⟨by decide, by decide⟩ ?_
    refine g_icmp_lt (tgt := 28) dX7_work_16 (by decide) (fun c16 => ?_) (fun c16 => ?_)
    · refine g_aload_n dX7_work_28 rfl ?_
      refine g_bipush dX7_work_29 (by decide) ?_
      refine g_callvI dX7_work_31 tm_7_133 rfl ⟨rfl, rfl⟩ rfl (Nat.le_of_ble_eq_true rfl) (cm_refuse (by omega) σ hf _ ⟨by omega, by omega⟩ hg.2.2) (fun z31 s31 h31 => ?_)
      obtain ⟨rfl, rfl⟩ := h31
      refine g_ireturn dX7_work_34 (Or.inl rfl) ⟨_, rfl, ?_⟩
      first
        | exact Or.inl ⟨by omega, rfl, rfl⟩
        | exact Or.inr (Or.inl ⟨by omega, by omega, rfl, rfl⟩)
        | exact Or.inr (Or.inr (Or.inl ⟨by omega, by omega, by omega, rfl, rfl⟩))
        | (refine Or.inr (Or.inr (Or.inr ⟨by omega, by omega, by omega, by omega, ?_⟩))
           rw [Int.toNat_natCast])
    · refine g_iload_n dX7_work_19 rfl ?_
      refine g_if_lt (tgt := 28) dX7_work_20 (by decide) (fun c20 => ?_) (fun c20 => ?_)
      · refine g_aload_n dX7_work_28 rfl ?_
        refine g_bipush dX7_work_29 (by decide) ?_
        refine g_callvI dX7_work_31 tm_7_133 rfl ⟨rfl, rfl⟩ rfl (Nat.le_of_ble_eq_true rfl) (cm_refuse (by omega) σ hf _ ⟨by omega, by omega⟩ hg.2.2) (fun z31 s31 h31 => ?_)
        obtain ⟨rfl, rfl⟩ := h31
        refine g_ireturn dX7_work_34 (Or.inl rfl) ⟨_, rfl, ?_⟩
        first
          | exact Or.inl ⟨by omega, rfl, rfl⟩
          | exact Or.inr (Or.inl ⟨by omega, by omega, rfl, rfl⟩)
          | exact Or.inr (Or.inr (Or.inl ⟨by omega, by omega, by omega, rfl, rfl⟩))
          | (refine Or.inr (Or.inr (Or.inr ⟨by omega, by omega, by omega, by omega, ?_⟩))
             rw [Int.toNat_natCast])
      · refine g_iload dX7_work_23 rfl ?_
        refine g_if_ge (tgt := 35) dX7_work_25 (by decide) (fun c25 => ?_) (fun c25 => ?_)
        · refine g_iload_n dX7_work_35 rfl ?_
          refine g_bipush dX7_work_36 (by decide) ?_
          refine g_icmp_gt (tgt := 63) dX7_work_38 (by decide) (fun c38 => ?_) (fun c38 => ?_)
          · refine g_aload_n dX7_work_63 rfl ?_
            refine g_bipush dX7_work_64 (by decide) ?_
            refine g_callvI dX7_work_66 tm_7_133 rfl ⟨rfl, rfl⟩ rfl (Nat.le_of_ble_eq_true rfl) (cm_refuse (by omega) σ hf _ ⟨by omega, by omega⟩ hg.2.2) (fun z66 s66 h66 => ?_)
            obtain ⟨rfl, rfl⟩ := h66
            refine g_ireturn dX7_work_69 (Or.inl rfl) ⟨_, rfl, ?_⟩
            first
              | exact Or.inl ⟨by omega, rfl, rfl⟩
              | exact Or.inr (Or.inl ⟨by omega, by omega, rfl, rfl⟩)
              | exact Or.inr (Or.inr (Or.inl ⟨by omega, by omega, by omega, rfl, rfl⟩))
              | (refine Or.inr (Or.inr (Or.inr ⟨by omega, by omega, by omega, by omega, ?_⟩))
                 rw [Int.toNat_natCast])
          · refine g_iload_n dX7_work_41 rfl ?_
            refine g_ldc dX7_work_42 ti_7_155 ⟨by decide, by decide⟩ ?_
            refine g_icmp_gt (tgt := 63) dX7_work_44 (by decide) (fun c44 => ?_) (fun c44 => ?_)
            · refine g_aload_n dX7_work_63 rfl ?_
              refine g_bipush dX7_work_64 (by decide) ?_
              refine g_callvI dX7_work_66 tm_7_133 rfl ⟨rfl, rfl⟩ rfl (Nat.le_of_ble_eq_true rfl) (cm_refuse (by omega) σ hf _ ⟨by omega, by omega⟩ hg.2.2) (fun z66 s66 h66 => ?_)
              obtain ⟨rfl, rfl⟩ := h66
              refine g_ireturn dX7_work_69 (Or.inl rfl) ⟨_, rfl, ?_⟩
              first
                | exact Or.inl ⟨by omega, rfl, rfl⟩
                | exact Or.inr (Or.inl ⟨by omega, by omega, rfl, rfl⟩)
                | exact Or.inr (Or.inr (Or.inl ⟨by omega, by omega, by omega, rfl, rfl⟩))
                | (refine Or.inr (Or.inr (Or.inr ⟨by omega, by omega, by omega, by omega, ?_⟩))
                   rw [Int.toNat_natCast])
            · refine g_iload dX7_work_47 rfl ?_
              refine g_bipush dX7_work_49 (by decide) ?_
              refine g_icmp_gt (tgt := 63) dX7_work_51 (by decide) (fun c51 => ?_) (fun c51 => ?_)
              · refine g_aload_n dX7_work_63 rfl ?_
                refine g_bipush dX7_work_64 (by decide) ?_
                refine g_callvI dX7_work_66 tm_7_133 rfl ⟨rfl, rfl⟩ rfl (Nat.le_of_ble_eq_true rfl) (cm_refuse (by omega) σ hf _ ⟨by omega, by omega⟩ hg.2.2) (fun z66 s66 h66 => ?_)
                obtain ⟨rfl, rfl⟩ := h66
                refine g_ireturn dX7_work_69 (Or.inl rfl) ⟨_, rfl, ?_⟩
                first
                  | exact Or.inl ⟨by omega, rfl, rfl⟩
                  | exact Or.inr (Or.inl ⟨by omega, by omega, rfl, rfl⟩)
                  | exact Or.inr (Or.inr (Or.inl ⟨by omega, by omega, by omega, rfl, rfl⟩))
                  | (refine Or.inr (Or.inr (Or.inr ⟨by omega, by omega, by omega, by omega, ?_⟩))
                     rw [Int.toNat_natCast])
              · refine g_aload_n dX7_work_54 rfl ?_
                refine g_getI dX7_work_55 tf_7_145 rfl rfl ?_
                refine g_bipush dX7_work_58 (by decide) ?_
                refine g_icmp_ne (tgt := 70) dX7_work_60 (by decide) (fun c60 => ?_) (fun c60 => ?_)
                · refine g_aload_n dX7_work_70 rfl ?_
                  refine g_getA dX7_work_71 tf_7_16 rfl rfl (mrf hf rfl) ?_
                  refine g_aload_n dX7_work_74 rfl ?_
                  refine g_getI dX7_work_75 tf_7_145 rfl rfl ?_
                  rw [hW]
                  refine g_iload_n dX7_work_78 rfl ?_
                  refine g_iastN (W) dX7_work_79 rfl (by omega) (by omega) ?_
                  refine g_aload_n dX7_work_80 rfl ?_
                  refine g_getA dX7_work_81 tf_7_19 rfl rfl (mrf hf rfl) ?_
                  refine g_aload_n dX7_work_84 rfl ?_
                  refine g_getI dX7_work_85 tf_7_145 rfl rfl ?_
                  rw [hI_uI_n (by omega), hW]
                  refine g_iload_n dX7_work_88 rfl ?_
                  refine g_iastN (W) dX7_work_89 rfl (by omega) (by omega) ?_
                  refine g_aload_n dX7_work_90 rfl ?_
                  refine g_getA dX7_work_91 tf_7_22 rfl rfl (mrf hf rfl) ?_
                  refine g_aload_n dX7_work_94 rfl ?_
                  refine g_getI dX7_work_95 tf_7_145 rfl rfl ?_
                  rw [hI_uI_n (by omega), hI_uI_n (by omega), hW]
                  refine g_iload_n dX7_work_98 rfl ?_
                  refine g_iastN (W) dX7_work_99 rfl (by omega) (by omega) ?_
                  refine g_aload_n dX7_work_100 rfl ?_
                  refine g_getA dX7_work_101 tf_7_25 rfl rfl (mrf hf rfl) ?_
                  refine g_aload_n dX7_work_104 rfl ?_
                  refine g_getI dX7_work_105 tf_7_145 rfl rfl ?_
                  rw [hI_uI_n (by omega), hI_uI_n (by omega), hI_uI_n (by omega), hW]
                  refine g_iload dX7_work_108 rfl ?_
                  refine g_iastN (W) dX7_work_110 rfl (by omega) (by omega) ?_
                  refine g_aload_n dX7_work_111 rfl ?_
                  refine g_dup dX7_work_112 rfl ?_
                  refine g_getI dX7_work_113 tf_7_145 rfl rfl ?_
                  rw [hI_uI_n (by omega), hI_uI_n (by omega), hI_uI_n (by omega), hI_uI_n (by omega), hW]
                  refine g_iconst dX7_work_116 ⟨by decide, by decide⟩ ?_
                  refine g_iadd dX7_work_117 rfl ⟨by omega, by omega⟩ ?_
                  refine g_putI dX7_work_118 tf_7_145 rfl rfl rfl ?_
                  refine g_aload_n dX7_work_121 rfl ?_
                  refine g_getI dX7_work_122 tf_7_145 rfl rfl ?_
                  rw [hI_uI_e ⟨by omega, by omega⟩]
                  refine g_iconst dX7_work_125 ⟨by decide, by decide⟩ ?_
                  refine g_isub dX7_work_126 rfl ⟨by omega, by omega⟩ ?_
                  refine g_ireturn dX7_work_127 (Or.inl rfl) ⟨_, rfl, ?_⟩
                  first
                    | exact Or.inl ⟨by omega, rfl, rfl⟩
                    | exact Or.inr (Or.inl ⟨by omega, by omega, rfl, rfl⟩)
                    | exact Or.inr (Or.inr (Or.inl ⟨by omega, by omega, by omega, rfl, rfl⟩))
                    | (refine Or.inr (Or.inr (Or.inr ⟨by omega, by omega, by omega, by omega, ?_⟩))
                       rw [Int.toNat_natCast])
                · refine g_aload_n dX7_work_63 rfl ?_
                  refine g_bipush dX7_work_64 (by decide) ?_
                  refine g_callvI dX7_work_66 tm_7_133 rfl ⟨rfl, rfl⟩ rfl (Nat.le_of_ble_eq_true rfl) (cm_refuse (by omega) σ hf _ ⟨by omega, by omega⟩ hg.2.2) (fun z66 s66 h66 => ?_)
                  obtain ⟨rfl, rfl⟩ := h66
                  refine g_ireturn dX7_work_69 (Or.inl rfl) ⟨_, rfl, ?_⟩
                  first
                    | exact Or.inl ⟨by omega, rfl, rfl⟩
                    | exact Or.inr (Or.inl ⟨by omega, by omega, rfl, rfl⟩)
                    | exact Or.inr (Or.inr (Or.inl ⟨by omega, by omega, by omega, rfl, rfl⟩))
                    | (refine Or.inr (Or.inr (Or.inr ⟨by omega, by omega, by omega, by omega, ?_⟩))
                       rw [Int.toNat_natCast])
        · refine g_aload_n dX7_work_28 rfl ?_
          refine g_bipush dX7_work_29 (by decide) ?_
          refine g_callvI dX7_work_31 tm_7_133 rfl ⟨rfl, rfl⟩ rfl (Nat.le_of_ble_eq_true rfl) (cm_refuse (by omega) σ hf _ ⟨by omega, by omega⟩ hg.2.2) (fun z31 s31 h31 => ?_)
          obtain ⟨rfl, rfl⟩ := h31
          refine g_ireturn dX7_work_34 (Or.inl rfl) ⟨_, rfl, ?_⟩
          first
            | exact Or.inl ⟨by omega, rfl, rfl⟩
            | exact Or.inr (Or.inl ⟨by omega, by omega, rfl, rfl⟩)
            | exact Or.inr (Or.inr (Or.inl ⟨by omega, by omega, by omega, rfl, rfl⟩))
            | (refine Or.inr (Or.inr (Or.inr ⟨by omega, by omega, by omega, by omega, ?_⟩))
               rw [Int.toNat_natCast])
  · refine g_aload_n dX7_work_8 rfl ?_
    refine g_iconst dX7_work_9 ⟨by decide, by decide⟩ ?_
    refine g_callvI dX7_work_10 tm_7_133 rfl ⟨rfl, rfl⟩ rfl (Nat.le_of_ble_eq_true rfl) (cm_refuse (by omega) σ hf _ ⟨by omega, by omega⟩ hg.2.2) (fun z10 s10 h10 => ?_)
    obtain ⟨rfl, rfl⟩ := h10
    refine g_ireturn dX7_work_13 (Or.inl rfl) ⟨_, rfl, ?_⟩
    first
      | exact Or.inl ⟨by omega, rfl, rfl⟩
      | exact Or.inr (Or.inl ⟨by omega, by omega, rfl, rfl⟩)
      | exact Or.inr (Or.inr (Or.inl ⟨by omega, by omega, by omega, rfl, rfl⟩))
      | (refine Or.inr (Or.inr (Or.inr ⟨by omega, by omega, by omega, by omega, ?_⟩))
         rw [Int.toNat_natCast])

theorem cm_excuse {D : Nat} (hD : 4 ≤ D) (σ : am_HS) (hf : σ.2.2 = mH) (hb : rgM σ) (hg : GM σ) (p w on : Int) (hon : on = 0 ∨ on = 1) : am_Do lm D mX7_excuse σ [vR (some 0), vI p, vI w, vI on] (qI fun z s => (¬ (0 ≤ p ∧ p < hI σ 0 1 ∧ 0 ≤ w ∧ w < hI σ 0 2) ∧ z = -1 ∧ s = uI σ 1 1 (hI σ 1 1 + 1)) ∨ ((0 ≤ p ∧ p < hI σ 0 1 ∧ 0 ≤ w ∧ w < hI σ 0 2) ∧ hI σ 15 (10 * p + w).toNat = on ∧ z = 0 ∧ s = σ) ∨ ((0 ≤ p ∧ p < hI σ 0 1 ∧ 0 ≤ w ∧ w < hI σ 0 2) ∧ hI σ 15 (10 * p + w).toNat ≠ on ∧ z = 1 ∧ s = uI σ 15 (10 * p + w).toNat on)) := by
  obtain ⟨hg1, hg2, hrf⟩ := id hg
  obtain ⟨d, rfl⟩ : ∃ d, D = d + 1 := ⟨D - 1, by omega⟩
  refine am_enter rfl rfl (Nat.le_of_ble_eq_true rfl) ?_
  refine g_aload_n dX7_excuse_0 rfl ?_
  refine g_iload_n dX7_excuse_1 rfl ?_
  refine g_callvI dX7_excuse_2 tm_7_151 rfl ⟨rfl, rfl⟩ rfl (Nat.le_of_ble_eq_true rfl) (cm_isPupil (by omega) σ _) (fun z2 s2 h2 => ?_)
  obtain ⟨h2, e2⟩ := h2
  obtain rfl := e2.symm
  refine g_if_eq (tgt := 16) dX7_excuse_5 (by decide) (fun c5 => ?_) (fun c5 => ?_)
  · refine g_aload_n dX7_excuse_16 rfl ?_
    refine g_iconst dX7_excuse_17 ⟨by decide, by decide⟩ ?_
    refine g_callvI dX7_excuse_18 tm_7_133 rfl ⟨rfl, rfl⟩ rfl (Nat.le_of_ble_eq_true rfl) (cm_refuse (by omega) σ hf _ ⟨by omega, by omega⟩ hg.2.2) (fun z18 s18 h18 => ?_)
    obtain ⟨rfl, rfl⟩ := h18
    refine g_ireturn dX7_excuse_21 (Or.inl rfl) ⟨_, rfl, ?_⟩
    first
      | exact Or.inl ⟨by omega, rfl, rfl⟩
      | exact Or.inr (Or.inl ⟨by omega, by omega, rfl, rfl⟩)
      | exact Or.inr (Or.inr ⟨by omega, by omega, rfl, rfl⟩)
  · refine g_aload_n dX7_excuse_8 rfl ?_
    refine g_iload_n dX7_excuse_9 rfl ?_
    refine g_callvI dX7_excuse_10 tm_7_156 rfl ⟨rfl, rfl⟩ rfl (Nat.le_of_ble_eq_true rfl) (cm_isWork (by omega) σ _) (fun z10 s10 h10 => ?_)
    obtain ⟨h10, e10⟩ := h10
    obtain rfl := e10.symm
    refine g_if_ne (tgt := 22) dX7_excuse_13 (by decide) (fun c13 => ?_) (fun c13 => ?_)
    · refine g_aload_n dX7_excuse_22 rfl ?_
      refine g_getA dX7_excuse_23 tf_7_52 rfl rfl (mrf hf rfl) ?_
      refine g_iload_n dX7_excuse_26 rfl ?_
      refine g_iload_n dX7_excuse_27 rfl ?_
      refine g_callsI dX7_excuse_28 tm_7_159 rfl ⟨Nat.le_of_ble_eq_true rfl, rfl, rfl⟩ (Nat.le_of_ble_eq_true rfl) (cm_spot (by omega) _ _ _ ⟨by omega, by omega⟩ ⟨by omega, by omega⟩) (fun z28 s28 h28 => ?_)
      obtain ⟨rfl, e28⟩ := h28
      obtain rfl := e28.symm
      refine g_zald dX7_excuse_31 rfl ⟨by omega, by omega⟩ ?_
      refine g_iload_n dX7_excuse_32 rfl ?_
      refine g_icmp_ne (tgt := 38) dX7_excuse_33 (by decide) (fun c33 => ?_) (fun c33 => ?_)
      · refine g_aload_n dX7_excuse_38 rfl ?_
        refine g_getA dX7_excuse_39 tf_7_52 rfl rfl (mrf hf rfl) ?_
        refine g_iload_n dX7_excuse_42 rfl ?_
        refine g_iload_n dX7_excuse_43 rfl ?_
        refine g_callsI dX7_excuse_44 tm_7_159 rfl ⟨Nat.le_of_ble_eq_true rfl, rfl, rfl⟩ (Nat.le_of_ble_eq_true rfl) (cm_spot (by omega) _ _ _ ⟨by omega, by omega⟩ ⟨by omega, by omega⟩) (fun z44 s44 h44 => ?_)
        obtain ⟨rfl, e44⟩ := h44
        obtain rfl := e44.symm
        refine g_iload_n dX7_excuse_47 rfl ?_
        refine g_zast dX7_excuse_48 rfl ⟨by omega, by omega⟩ (by omega) ?_
        refine g_iconst dX7_excuse_49 ⟨by decide, by decide⟩ ?_
        refine g_ireturn dX7_excuse_50 (Or.inl rfl) ⟨_, rfl, ?_⟩
        first
          | exact Or.inl ⟨by omega, rfl, rfl⟩
          | exact Or.inr (Or.inl ⟨by omega, by omega, rfl, rfl⟩)
          | exact Or.inr (Or.inr ⟨by omega, by omega, rfl, rfl⟩)
      · refine g_iconst dX7_excuse_36 ⟨by decide, by decide⟩ ?_
        refine g_ireturn dX7_excuse_37 (Or.inl rfl) ⟨_, rfl, ?_⟩
        first
          | exact Or.inl ⟨by omega, rfl, rfl⟩
          | exact Or.inr (Or.inl ⟨by omega, by omega, rfl, rfl⟩)
          | exact Or.inr (Or.inr ⟨by omega, by omega, rfl, rfl⟩)
    · refine g_aload_n dX7_excuse_16 rfl ?_
      refine g_iconst dX7_excuse_17 ⟨by decide, by decide⟩ ?_
      refine g_callvI dX7_excuse_18 tm_7_133 rfl ⟨rfl, rfl⟩ rfl (Nat.le_of_ble_eq_true rfl) (cm_refuse (by omega) σ hf _ ⟨by omega, by omega⟩ hg.2.2) (fun z18 s18 h18 => ?_)
      obtain ⟨rfl, rfl⟩ := h18
      refine g_ireturn dX7_excuse_21 (Or.inl rfl) ⟨_, rfl, ?_⟩
      first
        | exact Or.inl ⟨by omega, rfl, rfl⟩
        | exact Or.inr (Or.inl ⟨by omega, by omega, rfl, rfl⟩)
        | exact Or.inr (Or.inr ⟨by omega, by omega, rfl, rfl⟩)

theorem cm_name {D : Nat} (hD : 4 ≤ D) (σ : am_HS) (hf : σ.2.2 = mH) (hb : rgM σ) (hg : GM σ) {N n : Nat} {lo hi ρ : Nat → Nat} {ev : Nat → Den} {td : TD} (hR : BK N n lo hi ρ ev td σ) (hm : hI σ 23 N = (n : Int)) (r : Int) : am_Do lm D mX7_name σ [vR (some 0), vI r] (qI fun z s => (¬ (0 ≤ r ∧ r < (n : Int)) ∧ z = -1 ∧ s = uI σ 1 1 (hI σ 1 1 + 1)) ∨ ((0 ≤ r ∧ r < (n : Int)) ∧ z = hI σ 24 (12 * N + r.toNat) ∧ s = σ)) := by
  obtain ⟨hg1, hg2, hrf⟩ := id hg
  have hnow : hI σ 0 42 = (N : Int) := hR.1.2.2.1
  have hN2 : N < 2 := hR.1.2.1
  have hn12 : n ≤ 12 := hR.1.1
  obtain ⟨d, rfl⟩ : ∃ d, D = d + 1 := ⟨D - 1, by omega⟩
  refine am_enter rfl rfl (Nat.le_of_ble_eq_true rfl) ?_
  refine g_aload_n dX7_name_0 rfl ?_
  refine g_iload_n dX7_name_1 rfl ?_
  refine g_callvI dX7_name_2 tm_7_289 rfl ⟨rfl, rfl⟩ rfl (Nat.le_of_ble_eq_true rfl) (cm_isRule (by omega) σ hf (by have := hR.1.2.1; have := hR.1.2.2.1; omega) _) (fun z2 s2 h2 => ?_)
  obtain ⟨h2, e2⟩ := h2
  obtain rfl := e2.symm
  rw [hR.1.2.2.1, Int.toNat_natCast, hm] at h2
  refine g_if_eq (tgt := 25) dX7_name_5 (by decide) (fun c5 => ?_) (fun c5 => ?_)
  · refine g_aload_n dX7_name_25 rfl ?_
    refine g_iconst dX7_name_26 ⟨by decide, by decide⟩ ?_
    refine g_callvI dX7_name_27 tm_7_133 rfl ⟨rfl, rfl⟩ rfl (Nat.le_of_ble_eq_true rfl) (cm_refuse (by omega) σ hf _ ⟨by omega, by omega⟩ hg.2.2) (fun z27 s27 h27 => ?_)
    obtain ⟨rfl, rfl⟩ := h27
    refine g_ireturn dX7_name_30 (Or.inl rfl) ⟨_, rfl, ?_⟩
    first
      | exact Or.inl ⟨by omega, rfl, rfl⟩
      | exact Or.inr ⟨by omega, rfl, rfl⟩
  · refine g_aload_n dX7_name_8 rfl ?_
    refine g_getA dX7_name_9 tf_7_80 rfl rfl (mrf hf rfl) ?_
    refine g_bipush dX7_name_12 (by decide) ?_
    refine g_aload_n dX7_name_14 rfl ?_
    refine g_getI dX7_name_15 tf_7_148 rfl rfl ?_
    rw [hnow]
    refine g_imul dX7_name_18 rfl ⟨by omega, by omega⟩ ?_
    refine g_iload_n dX7_name_19 rfl ?_
    refine g_iadd dX7_name_20 rfl ⟨by omega, by omega⟩ ?_
    refine g_ialdN (12 * N + r.toNat) dX7_name_21 rfl (by omega) (by omega) ?_
    refine g_goto (tgt := 30) dX7_name_22 (by decide) ?_
    refine g_ireturn dX7_name_30 (Or.inl rfl) ⟨_, rfl, ?_⟩
    first
      | exact Or.inl ⟨by omega, rfl, rfl⟩
      | exact Or.inr ⟨by omega, rfl, rfl⟩

theorem cm_hangs {D : Nat} (hD : 4 ≤ D) (σ : am_HS) (hf : σ.2.2 = mH) (hb : rgM σ) (hg : GM σ) {N n : Nat} {lo hi ρ : Nat → Nat} {ev : Nat → Den} {td : TD} (hR : BK N n lo hi ρ ev td σ) (hm : hI σ 23 N = (n : Int)) (fr : Nat → Nat) (W : Nat) (hfr : ∀ r, r ≤ n → hI σ 26 (13 * N + r) = (fr r : Int) ∧ fr r ≤ 1600) (hmon : ∀ r, r < n → fr r ≤ fr (r + 1)) (hW : hI σ 0 2 = (W : Int)) (hnd : ∀ r k, r < n → fr r ≤ k → k < fr (r + 1) → hI σ 17 (1600 * N + k) = 1 → (0 ≤ hI σ 18 (1600 * N + k) ∧ hI σ 18 (1600 * N + k) < 12) ∨ (100 ≤ hI σ 18 (1600 * N + k) ∧ hI σ 18 (1600 * N + k) < 110)) (r w : Int) : am_Do lm D mX7_hangs σ [vR (some 0), vI r, vI w] (qI fun z s => (¬ (0 ≤ r ∧ r < (n : Int) ∧ 0 ≤ w ∧ w < hI σ 0 2) ∧ z = -1 ∧ s = uI σ 1 1 (hI σ 1 1 + 1)) ∨ ((0 ≤ r ∧ r < (n : Int) ∧ 0 ≤ w ∧ w < hI σ 0 2) ∧ (z = 1 ∧ rch (EM σ N n W fr) 22 r.toNat (12 + w.toNat) ∨ z = 0 ∧ ¬ rch (EM σ N n W fr) 22 r.toNat (12 + w.toNat)) ∧ FrM σ s)) := by
  obtain ⟨hg1, hg2, hrf⟩ := id hg
  have hnow : hI σ 0 42 = (N : Int) := hR.1.2.2.1
  have hN2 : N < 2 := hR.1.2.1
  have hn12 : n ≤ 12 := hR.1.1
  obtain ⟨d, rfl⟩ : ∃ d, D = d + 1 := ⟨D - 1, by omega⟩
  refine am_enter rfl rfl (Nat.le_of_ble_eq_true rfl) ?_
  refine g_aload_n dX7_hangs_0 rfl ?_
  refine g_iload_n dX7_hangs_1 rfl ?_
  refine g_callvI dX7_hangs_2 tm_7_289 rfl ⟨rfl, rfl⟩ rfl (Nat.le_of_ble_eq_true rfl) (cm_isRule (by omega) σ hf (by have := hR.1.2.1; have := hR.1.2.2.1; omega) _) (fun z2 s2 h2 => ?_)
  obtain ⟨h2, e2⟩ := h2
  obtain rfl := e2.symm
  rw [hR.1.2.2.1, Int.toNat_natCast, hm] at h2
  refine g_if_eq (tgt := 16) dX7_hangs_5 (by decide) (fun c5 => ?_) (fun c5 => ?_)
  · refine g_aload_n dX7_hangs_16 rfl ?_
    refine g_iconst dX7_hangs_17 ⟨by decide, by decide⟩ ?_
    refine g_callvI dX7_hangs_18 tm_7_133 rfl ⟨rfl, rfl⟩ rfl (Nat.le_of_ble_eq_true rfl) (cm_refuse (by omega) σ hf _ ⟨by omega, by omega⟩ hg.2.2) (fun z18 s18 h18 => ?_)
    obtain ⟨rfl, rfl⟩ := h18
    refine g_ireturn dX7_hangs_21 (Or.inl rfl) ⟨_, rfl, ?_⟩
    first
      | exact Or.inl ⟨by omega, rfl, rfl⟩
      | (refine Or.inr ⟨by omega, ?_, FrM_hs σ G⟩
         have hBr := hB r (by omega) (12 + w)
         by_cases h : (G r).testBit (12 + w) = true
         · exact Or.inl ⟨if_pos h, hBr.mp h⟩
         · exact Or.inr ⟨if_neg h, fun h2 => h (hBr.mpr h2)⟩)
  · refine g_aload_n dX7_hangs_8 rfl ?_
    refine g_iload_n dX7_hangs_9 rfl ?_
    refine g_callvI dX7_hangs_10 tm_7_156 rfl ⟨rfl, rfl⟩ rfl (Nat.le_of_ble_eq_true rfl) (cm_isWork (by omega) σ _) (fun z10 s10 h10 => ?_)
    obtain ⟨h10, e10⟩ := h10
    obtain rfl := e10.symm
    refine g_if_ne (tgt := 22) dX7_hangs_13 (by decide) (fun c13 => ?_) (fun c13 => ?_)
    · obtain ⟨w, rfl⟩ : ∃ q : Nat, w = (q : Int) := ⟨w.toNat, by omega⟩
      obtain ⟨r, rfl⟩ : ∃ q : Nat, r = (q : Int) := ⟨r.toNat, by omega⟩
      have hr : r < 12 := by omega
      refine g_aload_n dX7_hangs_22 rfl ?_
      refine g_aload_n dX7_hangs_23 rfl ?_
      refine g_getI dX7_hangs_24 tf_7_148 rfl rfl ?_
      rw [hnow]
      refine g_callvV dX7_hangs_27 tm_7_277 rfl ⟨rfl, rfl⟩ rfl (Nat.le_of_ble_eq_true rfl) (cm_findHangs (by omega) σ hf hb N n W fr hN2 hm hR.1.1 hfr hmon hW (by omega) hnd) (fun s27 h27 => ?_)
      have hf0 := hf
      obtain ⟨G, rfl, hG, hB⟩ := h27
      have hf : (hs28 σ G).2.2 = mH := hf0
      refine g_aload_n dX7_hangs_30 rfl ?_
      refine g_getA dX7_hangs_31 tf_7_92 rfl rfl (mrf hf rfl) ?_
      refine g_iload_n dX7_hangs_34 rfl ?_
      refine g_ialdN (r) dX7_hangs_35 rfl (by omega) (by omega) ?_
      refine g_bipush dX7_hangs_36 (by decide) ?_
      refine g_iload_n dX7_hangs_38 rfl ?_
      refine g_iadd dX7_hangs_39 rfl ⟨by omega, by omega⟩ ?_
      have g1 := hG r
      rw [hs28_get (by omega) (hG r), show (12 : Int) + (w : Int) = ((12 + w : Nat) : Int) from by omega]
      refine g_ishr dX7_hangs_40 (bt_shr (by omega) (by omega)) ?_
      refine g_iconst dX7_hangs_41 ⟨by decide, by decide⟩ ?_
      refine g_iand dX7_hangs_42 (bt_bit (by omega) (by omega)) ?_
      refine g_ireturn dX7_hangs_43 (Or.inl rfl) ⟨_, rfl, ?_⟩
      first
        | exact Or.inl ⟨by omega, rfl, rfl⟩
        | (refine Or.inr ⟨by omega, ?_, FrM_hs σ G⟩
           have hBr := hB r (by omega) (12 + w)
           by_cases h : (G r).testBit (12 + w) = true
           · exact Or.inl ⟨if_pos h, hBr.mp h⟩
           · exact Or.inr ⟨if_neg h, fun h2 => h (hBr.mpr h2)⟩)
    · refine g_aload_n dX7_hangs_16 rfl ?_
      refine g_iconst dX7_hangs_17 ⟨by decide, by decide⟩ ?_
      refine g_callvI dX7_hangs_18 tm_7_133 rfl ⟨rfl, rfl⟩ rfl (Nat.le_of_ble_eq_true rfl) (cm_refuse (by omega) σ hf _ ⟨by omega, by omega⟩ hg.2.2) (fun z18 s18 h18 => ?_)
      obtain ⟨rfl, rfl⟩ := h18
      refine g_ireturn dX7_hangs_21 (Or.inl rfl) ⟨_, rfl, ?_⟩
      first
        | exact Or.inl ⟨by omega, rfl, rfl⟩
        | (refine Or.inr ⟨by omega, ?_, FrM_hs σ G⟩
           have hBr := hB r (by omega) (12 + w)
           by_cases h : (G r).testBit (12 + w) = true
           · exact Or.inl ⟨if_pos h, hBr.mp h⟩
           · exact Or.inr ⟨if_neg h, fun h2 => h (hBr.mpr h2)⟩)

