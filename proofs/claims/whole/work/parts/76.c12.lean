/-! THE CLASS: kept names, a book's small calls -/
def opC (v : Int) : Int := if fnS v = 0 then 1 else fnS v + 2
theorem cc1_opOf {D : Nat} (hD : 1 ≤ D) (σ : am_HS) (v : Int) : am_Do lc D mX1_opOf σ [vI v] (qI fun z s => z = opC v ∧ s = σ) := by
  obtain ⟨d, rfl⟩ : ∃ d, D = d + 1 := ⟨D - 1, by omega⟩
  refine am_enter rfl rfl (Nat.le_of_ble_eq_true rfl) ?_
  refine g_iload_n dX1_opOf_0 rfl ?_
  by_cases k2230 : v = 2230
  · subst k2230
    refine g_lookup dX1_opOf_1 (by decide) ⟨82, 83, by decide, by decide, ?_⟩
    refine g_bipush dX1_opOf_83 (by decide) ?_
    refine g_ireturn dX1_opOf_85 (Or.inl rfl) ⟨_, rfl, ?_⟩
    exact ⟨rfl, rfl⟩
  by_cases k9528 : v = 9528
  · subst k9528
    refine g_lookup dX1_opOf_1 (by decide) ⟨67, 68, by decide, by decide, ?_⟩
    refine g_bipush dX1_opOf_68 (by decide) ?_
    refine g_ireturn dX1_opOf_70 (Or.inl rfl) ⟨_, rfl, ?_⟩
    exact ⟨rfl, rfl⟩
  by_cases k9734 : v = 9734
  · subst k9734
    refine g_lookup dX1_opOf_1 (by decide) ⟨70, 71, by decide, by decide, ?_⟩
    refine g_bipush dX1_opOf_71 (by decide) ?_
    refine g_ireturn dX1_opOf_73 (Or.inl rfl) ⟨_, rfl, ?_⟩
    exact ⟨rfl, rfl⟩
  by_cases k43544 : v = 43544
  · subst k43544
    refine g_lookup dX1_opOf_1 (by decide) ⟨76, 77, by decide, by decide, ?_⟩
    refine g_bipush dX1_opOf_77 (by decide) ?_
    refine g_ireturn dX1_opOf_79 (Or.inl rfl) ⟨_, rfl, ?_⟩
    exact ⟨rfl, rfl⟩
  by_cases k92275 : v = 92275
  · subst k92275
    refine g_lookup dX1_opOf_1 (by decide) ⟨79, 80, by decide, by decide, ?_⟩
    refine g_bipush dX1_opOf_80 (by decide) ?_
    refine g_ireturn dX1_opOf_82 (Or.inl rfl) ⟨_, rfl, ?_⟩
    exact ⟨rfl, rfl⟩
  by_cases k259565 : v = 259565
  · subst k259565
    refine g_lookup dX1_opOf_1 (by decide) ⟨73, 74, by decide, by decide, ?_⟩
    refine g_bipush dX1_opOf_74 (by decide) ?_
    refine g_ireturn dX1_opOf_76 (Or.inl rfl) ⟨_, rfl, ?_⟩
    exact ⟨rfl, rfl⟩
  by_cases k316189 : v = 316189
  · subst k316189
    refine g_lookup dX1_opOf_1 (by decide) ⟨85, 86, by decide, by decide, ?_⟩
    refine g_bipush dX1_opOf_86 (by decide) ?_
    refine g_ireturn dX1_opOf_88 (Or.inl rfl) ⟨_, rfl, ?_⟩
    exact ⟨rfl, rfl⟩
  refine g_lookup dX1_opOf_1 (by decide) ⟨88, 89, by simp [Op.lookupswitch.offset, k2230, k9528, k9734, k43544, k92275, k259565, k316189, Ne.symm k2230, Ne.symm k9528, Ne.symm k9734, Ne.symm k43544, Ne.symm k92275, Ne.symm k259565, Ne.symm k316189], by decide, ?_⟩
  refine g_iconst dX1_opOf_89 ⟨by decide, by decide⟩ ?_
  refine g_ireturn dX1_opOf_90 (Or.inl rfl) ⟨_, rfl, ?_⟩
  exact ⟨by simp [opC, fnS, k2230, k9528, k9734, k43544, k92275, k259565, k316189], rfl⟩

theorem opC_1 {v : Int} : opC v = 1 ↔ fnS v = 0 := by
  have := fnS_r v
  unfold opC
  split <;> omega
theorem cc1_isKept {D : Nat} (hD : 2 ≤ D) (σ : am_HS) (v : Int) : am_Do lc D mX1_isKept σ [vI v] (qI fun z s => (z = 1 ∧ (fnS v ≠ 0 ∨ (622 ≤ v ∧ v < 632)) ∨ z = 0 ∧ fnS v = 0 ∧ ¬ (622 ≤ v ∧ v < 632)) ∧ s = σ) := by
  have ho := @opC_1 v
  have ho1 : opC v = 1 → fnS v = 0 := ho.1
  have ho2 : fnS v = 0 → opC v = 1 := ho.2
  clear ho
  obtain ⟨d, rfl⟩ : ∃ d, D = d + 1 := ⟨D - 1, by omega⟩
  refine am_enter rfl rfl (Nat.le_of_ble_eq_true rfl) ?_
  refine g_iload_n dX1_isKept_0 rfl ?_
  refine g_callsI dX1_isKept_1 tm_1_82 rfl ⟨Nat.le_of_ble_eq_true rfl, rfl, rfl⟩ (Nat.le_of_ble_eq_true rfl) (cc1_opOf (by omega) σ _) (fun z1 s1 h1 => ?_)
  obtain ⟨h1, e1⟩ := h1
  obtain rfl := e1.symm
  refine g_iconst dX1_isKept_4 ⟨by decide, by decide⟩ ?_
  refine g_icmp_ne (tgt := 22) dX1_isKept_5 (by decide) (fun c5 => ?_) (fun c5 => ?_)
  · refine g_iconst dX1_isKept_22 ⟨by decide, by decide⟩ ?_
    refine g_goto (tgt := 27) dX1_isKept_23 (by decide) ?_
    refine g_ireturn dX1_isKept_27 (Or.inr ⟨rfl, by omega⟩) ⟨_, rfl, ?_⟩
    refine ⟨?_, rfl⟩
    first
      | exact Or.inl ⟨by omega, Or.inl (fun h => by have := ho2 h; omega)⟩
      | exact Or.inl ⟨by omega, Or.inr ⟨by omega, by omega⟩⟩
      | exact Or.inr ⟨by omega, ho1 (by omega), by omega⟩
  · refine g_iload_n dX1_isKept_8 rfl ?_
    refine g_sipush dX1_isKept_9 (by decide) ?_
    refine g_icmp_lt (tgt := 26) dX1_isKept_12 (by decide) (fun c12 => ?_) (fun c12 => ?_)
    · refine g_iconst dX1_isKept_26 ⟨by decide, by decide⟩ ?_
      refine g_ireturn dX1_isKept_27 (Or.inr ⟨rfl, by omega⟩) ⟨_, rfl, ?_⟩
      refine ⟨?_, rfl⟩
      first
        | exact Or.inl ⟨by omega, Or.inl (fun h => by have := ho2 h; omega)⟩
        | exact Or.inl ⟨by omega, Or.inr ⟨by omega, by omega⟩⟩
        | exact Or.inr ⟨by omega, ho1 (by omega), by omega⟩
    · refine g_iload_n dX1_isKept_15 rfl ?_
      refine g_sipush dX1_isKept_16 (by decide) ?_
      refine g_icmp_ge (tgt := 26) dX1_isKept_19 (by decide) (fun c19 => ?_) (fun c19 => ?_)
      · refine g_iconst dX1_isKept_26 ⟨by decide, by decide⟩ ?_
        refine g_ireturn dX1_isKept_27 (Or.inr ⟨rfl, by omega⟩) ⟨_, rfl, ?_⟩
        refine ⟨?_, rfl⟩
        first
          | exact Or.inl ⟨by omega, Or.inl (fun h => by have := ho2 h; omega)⟩
          | exact Or.inl ⟨by omega, Or.inr ⟨by omega, by omega⟩⟩
          | exact Or.inr ⟨by omega, ho1 (by omega), by omega⟩
      · refine g_iconst dX1_isKept_22 ⟨by decide, by decide⟩ ?_
        refine g_goto (tgt := 27) dX1_isKept_23 (by decide) ?_
        refine g_ireturn dX1_isKept_27 (Or.inr ⟨rfl, by omega⟩) ⟨_, rfl, ?_⟩
        refine ⟨?_, rfl⟩
        first
          | exact Or.inl ⟨by omega, Or.inl (fun h => by have := ho2 h; omega)⟩
          | exact Or.inl ⟨by omega, Or.inr ⟨by omega, by omega⟩⟩
          | exact Or.inr ⟨by omega, ho1 (by omega), by omega⟩

theorem cc0_clear {D : Nat} (hD : 1 ≤ D) (σ : am_HS) {B : Nat} (hB : B < 2) : am_Do lc D mX0_clear σ [vR (some (6 + B))] (qV fun s => s = uI (uI (uI σ (6 + B) 0 0) (6 + B) 1 0) (6 + B) 2 0) := by
  obtain ⟨d, rfl⟩ : ∃ d, D = d + 1 := ⟨D - 1, by omega⟩
  refine am_enter rfl rfl (Nat.le_of_ble_eq_true rfl) ?_
  refine g_aload_n dX0_clear_0 rfl ?_
  refine g_iconst dX0_clear_1 ⟨by decide, by decide⟩ ?_
  refine g_putI dX0_clear_2 tf_0_39 (lc_b hB) rfl rfl ?_
  refine g_aload_n dX0_clear_5 rfl ?_
  refine g_iconst dX0_clear_6 ⟨by decide, by decide⟩ ?_
  refine g_putZ dX0_clear_7 tf_0_43 (lc_b hB) rfl rfl (by omega) ?_
  refine g_aload_n dX0_clear_10 rfl ?_
  refine g_iconst dX0_clear_11 ⟨by decide, by decide⟩ ?_
  refine g_putI dX0_clear_12 tf_0_47 (lc_b hB) rfl rfl ?_
  refine g_return dX0_clear_15 rfl ⟨rfl, ?_⟩
  rfl

theorem cc0_isPlace {D : Nat} (hD : 1 ≤ D) (σ : am_HS) {B : Nat} (hB : B < 2) (r : Int) : am_Do lc D mX0_isPlace σ [vR (some (6 + B)), vI r] (qI fun z s => (z = 1 ∧ (0 ≤ r ∧ r < hI σ (6 + B) 0 ∧ r < 12) ∨ z = 0 ∧ ¬ (0 ≤ r ∧ r < hI σ (6 + B) 0 ∧ r < 12)) ∧ s = σ) := by
  obtain ⟨d, rfl⟩ : ∃ d, D = d + 1 := ⟨D - 1, by omega⟩
  refine am_enter rfl rfl (Nat.le_of_ble_eq_true rfl) ?_
  refine g_iload_n dX0_isPlace_0 rfl ?_
  refine g_if_lt (tgt := 22) dX0_isPlace_1 (by decide) (fun c1 => ?_) (fun c1 => ?_)
  · refine g_iconst dX0_isPlace_22 ⟨by decide, by decide⟩ ?_
    refine g_ireturn dX0_isPlace_23 (Or.inr ⟨rfl, by omega⟩) ⟨_, rfl, ?_⟩
    exact ⟨by omega, rfl⟩
  · refine g_iload_n dX0_isPlace_4 rfl ?_
    refine g_aload_n dX0_isPlace_5 rfl ?_
    refine g_getI dX0_isPlace_6 tf_0_39 (lc_b hB) rfl ?_
    refine g_icmp_ge (tgt := 22) dX0_isPlace_9 (by decide) (fun c9 => ?_) (fun c9 => ?_)
    · refine g_iconst dX0_isPlace_22 ⟨by decide, by decide⟩ ?_
      refine g_ireturn dX0_isPlace_23 (Or.inr ⟨rfl, by omega⟩) ⟨_, rfl, ?_⟩
      exact ⟨by omega, rfl⟩
    · refine g_iload_n dX0_isPlace_12 rfl ?_
      refine g_bipush dX0_isPlace_13 (by decide) ?_
      refine g_icmp_ge (tgt := 22) dX0_isPlace_15 (by decide) (fun c15 => ?_) (fun c15 => ?_)
      · refine g_iconst dX0_isPlace_22 ⟨by decide, by decide⟩ ?_
        refine g_ireturn dX0_isPlace_23 (Or.inr ⟨rfl, by omega⟩) ⟨_, rfl, ?_⟩
        exact ⟨by omega, rfl⟩
      · refine g_iconst dX0_isPlace_18 ⟨by decide, by decide⟩ ?_
        refine g_goto (tgt := 23) dX0_isPlace_19 (by decide) ?_
        refine g_ireturn dX0_isPlace_23 (Or.inr ⟨rfl, by omega⟩) ⟨_, rfl, ?_⟩
        exact ⟨by omega, rfl⟩

theorem cc0_begin {D : Nat} (hD : 1 ≤ D) (σ : am_HS) {b : Nat} (hf : σ.2.2 = cH b) {B : Nat} (hB : B < 2) (N : Nat) (hN : hI σ (6 + B) 0 = (N : Int)) (hN12 : N ≤ 12) (v : Int) : am_Do lc D mX0_begin σ [vR (some (6 + B)), vI v] (qI fun z s => (z = 0 ∧ N = 12 ∧ s = σ) ∨ (z = 1 ∧ N < 12 ∧ s = uI (uI (uI σ (19 + 9 * B) N v) (20 + 9 * B) N (hI σ (6 + B) 2)) (6 + B) 0 ((N : Int) + 1))) := by
  obtain ⟨d, rfl⟩ : ∃ d, D = d + 1 := ⟨D - 1, by omega⟩
  refine am_enter rfl rfl (Nat.le_of_ble_eq_true rfl) ?_
  refine g_aload_n dX0_begin_0 rfl ?_
  refine g_getI dX0_begin_1 tf_0_39 (lc_b hB) rfl ?_
  refine g_if_lt (tgt := 16) dX0_begin_4 (by decide) (fun c4 => ?_) (fun c4 => ?_)
  · exfalso; omega
  · refine g_aload_n dX0_begin_7 rfl ?_
    refine g_getI dX0_begin_8 tf_0_39 (lc_b hB) rfl ?_
    refine g_bipush dX0_begin_11 (by decide) ?_
    refine g_icmp_lt (tgt := 18) dX0_begin_13 (by decide) (fun c13 => ?_) (fun c13 => ?_)
    · refine g_aload_n dX0_begin_18 rfl ?_
      refine g_getA dX0_begin_19 tf_0_9 (lc_b hB) rfl (crb3 hf hB) ?_
      refine g_aload_n dX0_begin_22 rfl ?_
      refine g_getI dX0_begin_23 tf_0_39 (lc_b hB) rfl ?_
      rw [hN]
      refine g_iload_n dX0_begin_26 rfl ?_
      refine g_iastN (N) dX0_begin_27 (lcb3 hB) (by omega) (by omega) ?_
      refine g_aload_n dX0_begin_28 rfl ?_
      refine g_getA dX0_begin_29 tf_0_15 (lc_b hB) rfl (crb4 hf hB) ?_
      refine g_aload_n dX0_begin_32 rfl ?_
      refine g_getI dX0_begin_33 tf_0_39 (lc_b hB) rfl ?_
      rw [hI_uI_n (by omega), hN]
      refine g_aload_n dX0_begin_36 rfl ?_
      refine g_getI dX0_begin_37 tf_0_47 (lc_b hB) rfl ?_
      rw [hI_uI_n (by omega)]
      refine g_iastN (N) dX0_begin_40 (lcb4 hB) (by omega) (by omega) ?_
      refine g_aload_n dX0_begin_41 rfl ?_
      refine g_dup dX0_begin_42 rfl ?_
      refine g_getI dX0_begin_43 tf_0_39 (lc_b hB) rfl ?_
      rw [hI_uI_n (by omega), hI_uI_n (by omega), hN]
      refine g_iconst dX0_begin_46 ⟨by decide, by decide⟩ ?_
      refine g_iadd dX0_begin_47 rfl ⟨by omega, by omega⟩ ?_
      refine g_putI dX0_begin_48 tf_0_39 (lc_b hB) rfl rfl ?_
      refine g_iconst dX0_begin_51 ⟨by decide, by decide⟩ ?_
      refine g_ireturn dX0_begin_52 (Or.inr ⟨rfl, by omega⟩) ⟨_, rfl, ?_⟩
      first
        | exact Or.inl ⟨rfl, by omega, rfl⟩
        | exact Or.inr ⟨rfl, by omega, rfl⟩
    · refine g_iconst dX0_begin_16 ⟨by decide, by decide⟩ ?_
      refine g_ireturn dX0_begin_17 (Or.inr ⟨rfl, by omega⟩) ⟨_, rfl, ?_⟩
      first
        | exact Or.inl ⟨rfl, by omega, rfl⟩
        | exact Or.inr ⟨rfl, by omega, rfl⟩


def adS (σ : am_HS) (B k r : Nat) (op ar ta : Int) : am_HS := uI (uI (uI (uI (uI σ (25 + 9 * B) k op) (26 + 9 * B) k ar) (27 + 9 * B) k ta) (6 + B) 2 ((k : Int) + 1)) (21 + 9 * B) r ((k : Int) + 1)
theorem cc0_add {D : Nat} (hD : 2 ≤ D) (σ : am_HS) {b : Nat} (hf : σ.2.2 = cH b) {B : Nat} (hB : B < 2) (r k : Nat) (hN : hI σ (6 + B) 0 = (r : Int) + 1) (hr : r < 12) (hk : hI σ (6 + B) 2 = (k : Int)) (hk2 : k < 1200) (op ar ta : Int) : am_Do lc D mX0_add σ [vR (some (6 + B)), vI op, vI ar, vI ta] (qV fun s => s = adS σ B k r op ar ta) := by
  obtain ⟨d, rfl⟩ : ∃ d, D = d + 1 := ⟨D - 1, by omega⟩
  refine am_enter rfl rfl (Nat.le_of_ble_eq_true rfl) ?_
  refine g_aload_n dX0_add_0 rfl ?_
  refine g_getI dX0_add_1 tf_0_39 (lc_b hB) rfl ?_
  refine g_iconst dX0_add_4 ⟨by decide, by decide⟩ ?_
  refine g_isub dX0_add_5 rfl ⟨by omega, by omega⟩ ?_
  refine g_istore dX0_add_6 (by decide) rfl ?_
  refine g_aload_n dX0_add_8 rfl ?_
  refine g_getI dX0_add_9 tf_0_47 (lc_b hB) rfl ?_
  refine g_if_lt (tgt := 34) dX0_add_12 (by decide) (fun c12 => ?_) (fun c12 => ?_)
  · exfalso; omega
  · refine g_aload_n dX0_add_15 rfl ?_
    refine g_getI dX0_add_16 tf_0_47 (lc_b hB) rfl ?_
    refine g_sipush dX0_add_19 (by decide) ?_
    refine g_icmp_ge (tgt := 34) dX0_add_22 (by decide) (fun c22 => ?_) (fun c22 => ?_)
    · exfalso; omega
    · refine g_aload_n dX0_add_25 rfl ?_
      refine g_iload dX0_add_26 rfl ?_
      refine g_callvI dX0_add_28 tm_0_50 rfl ⟨rfl, rfl⟩ (lc_b hB) (Nat.le_of_ble_eq_true rfl) (cc0_isPlace (by omega) σ hB _) (fun z28 s28 h28 => ?_)
      obtain ⟨h28, e28⟩ := h28
      obtain rfl := e28.symm
      refine g_if_ne (tgt := 35) dX0_add_31 (by decide) (fun c31 => ?_) (fun c31 => ?_)
      · refine g_aload_n dX0_add_35 rfl ?_
        refine g_getA dX0_add_36 tf_0_30 (lc_b hB) rfl (crb9 hf hB) ?_
        refine g_aload_n dX0_add_39 rfl ?_
        refine g_getI dX0_add_40 tf_0_47 (lc_b hB) rfl ?_
        rw [hk]
        refine g_iload_n dX0_add_43 rfl ?_
        refine g_iastN (k) dX0_add_44 (lcb9 hB) (by omega) (by omega) ?_
        refine g_aload_n dX0_add_45 rfl ?_
        refine g_getA dX0_add_46 tf_0_33 (lc_b hB) rfl (crb10 hf hB) ?_
        refine g_aload_n dX0_add_49 rfl ?_
        refine g_getI dX0_add_50 tf_0_47 (lc_b hB) rfl ?_
        rw [hI_uI_n (by omega), hk]
        refine g_iload_n dX0_add_53 rfl ?_
        refine g_iastN (k) dX0_add_54 (lcb10 hB) (by omega) (by omega) ?_
        refine g_aload_n dX0_add_55 rfl ?_
        refine g_getA dX0_add_56 tf_0_36 (lc_b hB) rfl (crb11 hf hB) ?_
        refine g_aload_n dX0_add_59 rfl ?_
        refine g_getI dX0_add_60 tf_0_47 (lc_b hB) rfl ?_
        rw [hI_uI_n (by omega), hI_uI_n (by omega), hk]
        refine g_iload_n dX0_add_63 rfl ?_
        refine g_iastN (k) dX0_add_64 (lcb11 hB) (by omega) (by omega) ?_
        refine g_aload_n dX0_add_65 rfl ?_
        refine g_dup dX0_add_66 rfl ?_
        refine g_getI dX0_add_67 tf_0_47 (lc_b hB) rfl ?_
        rw [hI_uI_n (by omega), hI_uI_n (by omega), hI_uI_n (by omega), hk]
        refine g_iconst dX0_add_70 ⟨by decide, by decide⟩ ?_
        refine g_iadd dX0_add_71 rfl ⟨by omega, by omega⟩ ?_
        refine g_putI dX0_add_72 tf_0_47 (lc_b hB) rfl rfl ?_
        refine g_aload_n dX0_add_75 rfl ?_
        refine g_getA dX0_add_76 tf_0_18 (lc_b hB) rfl (crb5 hf hB) ?_
        refine g_iload dX0_add_79 rfl ?_
        refine g_aload_n dX0_add_81 rfl ?_
        refine g_getI dX0_add_82 tf_0_47 (lc_b hB) rfl ?_
        rw [hI_uI_e ⟨by omega, by omega⟩]
        refine g_iastN (r) dX0_add_85 (lcb5 hB) (by omega) (by omega) ?_
        refine g_return dX0_add_86 rfl ⟨rfl, ?_⟩
        rfl
      · exfalso; omega

theorem cc0_addN {D : Nat} (hD : 2 ≤ D) (σ : am_HS) {B : Nat} (hB : B < 2) (hk2 : hI σ (6 + B) 2 = 1200) (op ar ta : Int) (hN : 0 ≤ hI σ (6 + B) 0 ∧ hI σ (6 + B) 0 ≤ 12) : am_Do lc D mX0_add σ [vR (some (6 + B)), vI op, vI ar, vI ta] (qV fun s => s = σ) := by
  obtain ⟨d, rfl⟩ : ∃ d, D = d + 1 := ⟨D - 1, by omega⟩
  refine am_enter rfl rfl (Nat.le_of_ble_eq_true rfl) ?_
  refine g_aload_n dX0_add_0 rfl ?_
  refine g_getI dX0_add_1 tf_0_39 (lc_b hB) rfl ?_
  refine g_iconst dX0_add_4 ⟨by decide, by decide⟩ ?_
  refine g_isub dX0_add_5 rfl ⟨by omega, by omega⟩ ?_
  refine g_istore dX0_add_6 (by decide) rfl ?_
  refine g_aload_n dX0_add_8 rfl ?_
  refine g_getI dX0_add_9 tf_0_47 (lc_b hB) rfl ?_
  refine g_if_lt (tgt := 34) dX0_add_12 (by decide) (fun c12 => ?_) (fun c12 => ?_)
  · exfalso; omega
  · refine g_aload_n dX0_add_15 rfl ?_
    refine g_getI dX0_add_16 tf_0_47 (lc_b hB) rfl ?_
    refine g_sipush dX0_add_19 (by decide) ?_
    refine g_icmp_ge (tgt := 34) dX0_add_22 (by decide) (fun c22 => ?_) (fun c22 => ?_)
    · refine g_return dX0_add_34 rfl ⟨rfl, ?_⟩
      rfl
    · exfalso; omega

