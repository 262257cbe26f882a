/-! THE CLASS: small calls -/
section SUBW
variable {lay : am_L} {d c nL rt : Nat} {bb : ByteArray} {pc : Nat} {lv : am_LV} {st r : List am_V} {σ : am_HS} {Q : Option am_V → am_HS → Prop}
theorem g_isubW {x y : Int} (hd : decode bb pc = .ok (.isub, 1)) (h : am_Go lay d c nL rt bb (pc + 1) lv (vI (wI (x - y)) :: st) σ Q) : am_Go lay d c nL rt bb pc lv (vI y :: vI x :: st) σ Q := by
  obtain ⟨r0, σ1, hq, m, hn⟩ := h
  refine ⟨r0, σ1, hq, m + 1, ?_⟩
  unfold am_gi
  rw [hd]
  exact ⟨rfl, hn⟩
end SUBW
def GC (σ : am_HS) : Prop := (0 ≤ hI σ 0 7 ∧ hI σ 0 7 ≤ 6) ∧ (0 ≤ hI σ 0 8 ∧ hI σ 0 8 ≤ 10) ∧ ∀ k, k < 8 → 0 ≤ hI σ 8 k ∧ hI σ 8 k ≤ 100000
theorem cc6_refuse {D : Nat} (hD : 1 ≤ D) (σ : am_HS) {b : Nat} (hf : σ.2.2 = cH b) (c : Int) (hc : -7 ≤ c ∧ c ≤ 0) (hrf : ∀ k, k < 8 → 0 ≤ hI σ 8 k ∧ hI σ 8 k ≤ 100000) : am_Do lc D mX6_refuse σ [vR (some 0), vI c] (qI fun z s => z = c ∧ s = uI σ 8 (-c).toNat (hI σ 8 (-c).toNat + 1)) := by
  have hr := hrf (-c).toNat (by omega)
  obtain ⟨d, rfl⟩ : ∃ d, D = d + 1 := ⟨D - 1, by omega⟩
  refine am_enter rfl rfl (Nat.le_of_ble_eq_true rfl) ?_
  refine g_iload_n dX6_refuse_0 rfl ?_
  refine g_ineg dX6_refuse_1 rfl ⟨by omega, by omega⟩ ?_
  refine g_istore_n dX6_refuse_2 (by decide) rfl ?_
  refine g_iload_n dX6_refuse_3 rfl ?_
  refine g_if_lt (tgt := 26) dX6_refuse_4 (by decide) (fun c4 => ?_) (fun c4 => ?_)
  · exfalso; omega
  · refine g_iload_n dX6_refuse_7 rfl ?_
    refine g_aload_n dX6_refuse_8 rfl ?_
    refine g_getA dX6_refuse_9 tf_6_46 rfl rfl (crf hf rfl) ?_
    refine g_alen dX6_refuse_12 rfl (by decide) ?_
    refine g_icmp_ge (tgt := 26) dX6_refuse_13 (by decide) (fun c13 => ?_) (fun c13 => ?_)
    · exfalso; omega
    · refine g_aload_n dX6_refuse_16 rfl ?_
      refine g_getA dX6_refuse_17 tf_6_46 rfl rfl (crf hf rfl) ?_
      refine g_iload_n dX6_refuse_20 rfl ?_
      refine g_dup2_11 dX6_refuse_21 rfl rfl ?_
      refine g_ialdN ((-c).toNat) dX6_refuse_22 rfl (by omega) (by omega) ?_
      refine g_iconst dX6_refuse_23 ⟨by decide, by decide⟩ ?_
      refine g_iadd dX6_refuse_24 rfl ⟨by omega, by omega⟩ ?_
      refine g_iastN ((-c).toNat) dX6_refuse_25 rfl (by omega) (by omega) ?_
      refine g_iload_n dX6_refuse_26 rfl ?_
      refine g_ireturn dX6_refuse_27 (Or.inl rfl) ⟨_, rfl, ?_⟩
      exact ⟨rfl, rfl⟩

theorem cc6_refuseText {D : Nat} (hD : 1 ≤ D) (σ : am_HS)  (c : Int) (hr : 0 ≤ hI σ 0 13 ∧ hI σ 0 13 ≤ 100000) : am_Do lc D mX6_refuseText σ [vR (some 0), vI c] (qI fun z s => z = c ∧ s = uI σ 0 13 (hI σ 0 13 + 1)) := by
  obtain ⟨d, rfl⟩ : ∃ d, D = d + 1 := ⟨D - 1, by omega⟩
  refine am_enter rfl rfl (Nat.le_of_ble_eq_true rfl) ?_
  refine g_aload_n dX6_refuseText_0 rfl ?_
  refine g_dup dX6_refuseText_1 rfl ?_
  refine g_getI dX6_refuseText_2 tf_6_277 rfl rfl ?_
  refine g_iconst dX6_refuseText_5 ⟨by decide, by decide⟩ ?_
  refine g_iadd dX6_refuseText_6 rfl ⟨by omega, by omega⟩ ?_
  refine g_putI dX6_refuseText_7 tf_6_277 rfl rfl rfl ?_
  refine g_iload_n dX6_refuseText_10 rfl ?_
  refine g_ireturn dX6_refuseText_11 (Or.inl rfl) ⟨_, rfl, ?_⟩
  exact ⟨rfl, rfl⟩

theorem cc6_isPupil {D : Nat} (hD : 1 ≤ D) (σ : am_HS) {b : Nat} (hf : σ.2.2 = cH b) (p : Int) (hp6 : hI σ 0 7 ≤ 6) : am_Do lc D mX6_isPupil σ [vR (some 0), vI p] (qI fun z s => (z = 1 ∧ 0 ≤ p ∧ p < hI σ 0 7 ∨ z = 0 ∧ ¬ (0 ≤ p ∧ p < hI σ 0 7)) ∧ s = σ) := by
  obtain ⟨d, rfl⟩ : ∃ d, D = d + 1 := ⟨D - 1, by omega⟩
  refine am_enter rfl rfl (Nat.le_of_ble_eq_true rfl) ?_
  refine g_iload_n dX6_isPupil_0 rfl ?_
  refine g_if_lt (tgt := 25) dX6_isPupil_1 (by decide) (fun c1 => ?_) (fun c1 => ?_)
  · refine g_iconst dX6_isPupil_25 ⟨by decide, by decide⟩ ?_
    refine g_ireturn dX6_isPupil_26 (Or.inr ⟨rfl, by omega⟩) ⟨_, rfl, ?_⟩
    exact ⟨by omega, rfl⟩
  · refine g_iload_n dX6_isPupil_4 rfl ?_
    refine g_aload_n dX6_isPupil_5 rfl ?_
    refine g_getI dX6_isPupil_6 tf_6_51 rfl rfl ?_
    refine g_icmp_ge (tgt := 25) dX6_isPupil_9 (by decide) (fun c9 => ?_) (fun c9 => ?_)
    · refine g_iconst dX6_isPupil_25 ⟨by decide, by decide⟩ ?_
      refine g_ireturn dX6_isPupil_26 (Or.inr ⟨rfl, by omega⟩) ⟨_, rfl, ?_⟩
      exact ⟨by omega, rfl⟩
    · refine g_iload_n dX6_isPupil_12 rfl ?_
      refine g_aload_n dX6_isPupil_13 rfl ?_
      refine g_getA dX6_isPupil_14 tf_6_9 rfl rfl (crf hf rfl) ?_
      refine g_alen dX6_isPupil_17 rfl (by decide) ?_
      refine g_icmp_ge (tgt := 25) dX6_isPupil_18 (by decide) (fun c18 => ?_) (fun c18 => ?_)
      · refine g_iconst dX6_isPupil_25 ⟨by decide, by decide⟩ ?_
        refine g_ireturn dX6_isPupil_26 (Or.inr ⟨rfl, by omega⟩) ⟨_, rfl, ?_⟩
        exact ⟨by omega, rfl⟩
      · refine g_iconst dX6_isPupil_21 ⟨by decide, by decide⟩ ?_
        refine g_goto (tgt := 26) dX6_isPupil_22 (by decide) ?_
        refine g_ireturn dX6_isPupil_26 (Or.inr ⟨rfl, by omega⟩) ⟨_, rfl, ?_⟩
        exact ⟨by omega, rfl⟩

theorem cc6_isRule {D : Nat} (hD : 1 ≤ D) (σ : am_HS) {b : Nat} (hf : σ.2.2 = cH b) (r : Int) (hb2 : b < 2) (hn12 : hI σ (6 + b) 0 ≤ 12) : am_Do lc D mX6_isRule σ [vR (some 0), vI r] (qI fun z s => (z = 1 ∧ 0 ≤ r ∧ r < hI σ (6 + b) 0 ∨ z = 0 ∧ ¬ (0 ≤ r ∧ r < hI σ (6 + b) 0)) ∧ s = σ) := by
  have hb := hb2
  have hB := hb2
  obtain ⟨d, rfl⟩ : ∃ d, D = d + 1 := ⟨D - 1, by omega⟩
  refine am_enter rfl rfl (Nat.le_of_ble_eq_true rfl) ?_
  refine g_iload_n dX6_isRule_0 rfl ?_
  refine g_if_lt (tgt := 31) dX6_isRule_1 (by decide) (fun c1 => ?_) (fun c1 => ?_)
  · refine g_iconst dX6_isRule_31 ⟨by decide, by decide⟩ ?_
    refine g_ireturn dX6_isRule_32 (Or.inr ⟨rfl, by omega⟩) ⟨_, rfl, ?_⟩
    exact ⟨by omega, rfl⟩
  · refine g_iload_n dX6_isRule_4 rfl ?_
    refine g_aload_n dX6_isRule_5 rfl ?_
    refine g_getA dX6_isRule_6 tf_6_42 rfl rfl (crf hf rfl) ?_
    refine g_getI dX6_isRule_9 tf_6_122 (lc_b hb) rfl ?_
    refine g_icmp_ge (tgt := 31) dX6_isRule_12 (by decide) (fun c12 => ?_) (fun c12 => ?_)
    · refine g_iconst dX6_isRule_31 ⟨by decide, by decide⟩ ?_
      refine g_ireturn dX6_isRule_32 (Or.inr ⟨rfl, by omega⟩) ⟨_, rfl, ?_⟩
      exact ⟨by omega, rfl⟩
    · refine g_iload_n dX6_isRule_15 rfl ?_
      refine g_aload_n dX6_isRule_16 rfl ?_
      refine g_getA dX6_isRule_17 tf_6_42 rfl rfl (crf hf rfl) ?_
      refine g_getA dX6_isRule_20 tf_6_137 (lc_b hb) rfl (crb3 hf hB) ?_
      refine g_alen dX6_isRule_23 (lcb3 hB) (by decide) ?_
      refine g_icmp_ge (tgt := 31) dX6_isRule_24 (by decide) (fun c24 => ?_) (fun c24 => ?_)
      · refine g_iconst dX6_isRule_31 ⟨by decide, by decide⟩ ?_
        refine g_ireturn dX6_isRule_32 (Or.inr ⟨rfl, by omega⟩) ⟨_, rfl, ?_⟩
        exact ⟨by omega, rfl⟩
      · refine g_iconst dX6_isRule_27 ⟨by decide, by decide⟩ ?_
        refine g_goto (tgt := 32) dX6_isRule_28 (by decide) ?_
        refine g_ireturn dX6_isRule_32 (Or.inr ⟨rfl, by omega⟩) ⟨_, rfl, ?_⟩
        exact ⟨by omega, rfl⟩

theorem cc6_workAt {D : Nat} (hD : 1 ≤ D) (σ : am_HS) {b : Nat} (hf : σ.2.2 = cH b) (w : Int) (hw10 : hI σ 0 8 ≤ 10) : am_Do lc D mX6_workAt σ [vR (some 0), vI w] (qR fun z s => ((0 ≤ w ∧ w < hI σ 0 8) ∧ z = some (37 + w.toNat) ∨ ¬ (0 ≤ w ∧ w < hI σ 0 8) ∧ z = none) ∧ s = σ) := by
  obtain ⟨d, rfl⟩ : ∃ d, D = d + 1 := ⟨D - 1, by omega⟩
  refine am_enter rfl rfl (Nat.le_of_ble_eq_true rfl) ?_
  refine g_iload_n dX6_workAt_0 rfl ?_
  refine g_if_lt (tgt := 30) dX6_workAt_1 (by decide) (fun c1 => ?_) (fun c1 => ?_)
  · refine g_null dX6_workAt_30 ?_
    refine g_areturn dX6_workAt_31 rfl ⟨_, rfl, ?_⟩
    first
      | exact ⟨Or.inr ⟨by omega, rfl⟩, rfl⟩
      | (rw [crw hf (by omega)]; exact ⟨Or.inl ⟨by omega, rfl⟩, rfl⟩)
  · refine g_iload_n dX6_workAt_4 rfl ?_
    refine g_aload_n dX6_workAt_5 rfl ?_
    refine g_getI dX6_workAt_6 tf_6_64 rfl rfl ?_
    refine g_icmp_ge (tgt := 30) dX6_workAt_9 (by decide) (fun c9 => ?_) (fun c9 => ?_)
    · refine g_null dX6_workAt_30 ?_
      refine g_areturn dX6_workAt_31 rfl ⟨_, rfl, ?_⟩
      first
        | exact ⟨Or.inr ⟨by omega, rfl⟩, rfl⟩
        | (rw [crw hf (by omega)]; exact ⟨Or.inl ⟨by omega, rfl⟩, rfl⟩)
    · refine g_iload_n dX6_workAt_12 rfl ?_
      refine g_aload_n dX6_workAt_13 rfl ?_
      refine g_getA dX6_workAt_14 tf_6_15 rfl rfl (crf hf rfl) ?_
      refine g_alen dX6_workAt_17 rfl (by decide) ?_
      refine g_icmp_ge (tgt := 30) dX6_workAt_18 (by decide) (fun c18 => ?_) (fun c18 => ?_)
      · exfalso; omega
      · refine g_aload_n dX6_workAt_21 rfl ?_
        refine g_getA dX6_workAt_22 tf_6_15 rfl rfl (crf hf rfl) ?_
        refine g_iload_n dX6_workAt_25 rfl ?_
        refine g_aaldWN (w.toNat) dX6_workAt_26 rfl (by omega) (by omega) ?_
        refine g_goto (tgt := 31) dX6_workAt_27 (by decide) ?_
        refine g_areturn dX6_workAt_31 rfl ⟨_, rfl, ?_⟩
        first
          | exact ⟨Or.inr ⟨by omega, rfl⟩, rfl⟩
          | (rw [crw hf (by omega)]; exact ⟨Or.inl ⟨by omega, rfl⟩, rfl⟩)

theorem cc6_sheetOf {D : Nat} (hD : 2 ≤ D) (σ : am_HS) {b : Nat} (hf : σ.2.2 = cH b) (hg : GC σ) (p w : Int) : am_Do lc D mX6_sheetOf σ [vR (some 0), vI p, vI w] (qR fun z s => ((0 ≤ p ∧ p < hI σ 0 7 ∧ 0 ≤ w ∧ w < hI σ 0 8) ∧ z = some (47 + 4 * (10 * p + w).toNat) ∨ ¬ (0 ≤ p ∧ p < hI σ 0 7 ∧ 0 ≤ w ∧ w < hI σ 0 8) ∧ z = none) ∧ s = σ) := by
  obtain ⟨hg1, hg2, hrf⟩ := id hg
  obtain ⟨d, rfl⟩ : ∃ d, D = d + 1 := ⟨D - 1, by omega⟩
  refine am_enter rfl rfl (Nat.le_of_ble_eq_true rfl) ?_
  refine g_aload_n dX6_sheetOf_0 rfl ?_
  refine g_iload_n dX6_sheetOf_1 rfl ?_
  refine g_callvI dX6_sheetOf_2 tm_6_59 rfl ⟨rfl, rfl⟩ rfl (Nat.le_of_ble_eq_true rfl) (cc6_isPupil (by omega) σ hf _ (by omega)) (fun z2 s2 h2 => ?_)
  obtain ⟨h2, e2⟩ := h2
  obtain rfl := e2.symm
  refine g_if_eq (tgt := 16) dX6_sheetOf_5 (by decide) (fun c5 => ?_) (fun c5 => ?_)
  · refine g_null dX6_sheetOf_16 ?_
    refine g_areturn dX6_sheetOf_17 rfl ⟨_, rfl, ?_⟩
    first
      | exact ⟨Or.inr ⟨by omega, rfl⟩, rfl⟩
      | (rw [crk hf (by omega)]; exact ⟨Or.inl ⟨by omega, rfl⟩, rfl⟩)
  · refine g_aload_n dX6_sheetOf_8 rfl ?_
    refine g_iload_n dX6_sheetOf_9 rfl ?_
    refine g_callvR dX6_sheetOf_10 tm_6_67 rfl ⟨rfl, rfl⟩ rfl (Nat.le_of_ble_eq_true rfl) (cc6_workAt (by omega) σ hf _ (by omega)) (fun z10 s10 h10 => ?_)
    obtain ⟨h10, e10⟩ := h10
    obtain rfl := e10.symm
    refine g_ifnonnull (tgt := 18) dX6_sheetOf_13 (by decide) (fun c13 => ?_) (fun c13 => ?_)
    · have hno : ¬ (0 ≤ w ∧ w < hI σ 0 8) := by
        rcases h10 with a | a
        · exact absurd (a.2.symm.trans c13) (by simp)
        · exact a.1
      clear h10
      refine g_null dX6_sheetOf_16 ?_
      refine g_areturn dX6_sheetOf_17 rfl ⟨_, rfl, ?_⟩
      first
        | exact ⟨Or.inr ⟨by omega, rfl⟩, rfl⟩
        | (rw [crk hf (by omega)]; exact ⟨Or.inl ⟨by omega, rfl⟩, rfl⟩)
    · obtain ⟨hin, hz10⟩ : (0 ≤ w ∧ w < hI σ 0 8) ∧ z10 = some (37 + w.toNat) := by
        rcases h10 with a | a
        · exact a
        · exact absurd a.2 c13
      clear h10
      refine g_iload_n dX6_sheetOf_18 rfl ?_
      refine g_bipush dX6_sheetOf_19 (by decide) ?_
      refine g_imul dX6_sheetOf_21 rfl ⟨by omega, by omega⟩ ?_
      refine g_iload_n dX6_sheetOf_22 rfl ?_
      refine g_iadd dX6_sheetOf_23 rfl ⟨by omega, by omega⟩ ?_
      refine g_istore_n dX6_sheetOf_24 (by decide) rfl ?_
      refine g_iload_n dX6_sheetOf_25 rfl ?_
      refine g_if_lt (tgt := 47) dX6_sheetOf_26 (by decide) (fun c26 => ?_) (fun c26 => ?_)
      · exfalso; omega
      · refine g_iload_n dX6_sheetOf_29 rfl ?_
        refine g_aload_n dX6_sheetOf_30 rfl ?_
        refine g_getA dX6_sheetOf_31 tf_6_21 rfl rfl (crf hf rfl) ?_
        refine g_alen dX6_sheetOf_34 rfl (by decide) ?_
        refine g_icmp_ge (tgt := 47) dX6_sheetOf_35 (by decide) (fun c35 => ?_) (fun c35 => ?_)
        · exfalso; omega
        · refine g_aload_n dX6_sheetOf_38 rfl ?_
          refine g_getA dX6_sheetOf_39 tf_6_21 rfl rfl (crf hf rfl) ?_
          refine g_iload_n dX6_sheetOf_42 rfl ?_
          refine g_aaldSN ((10 * p + w).toNat) dX6_sheetOf_43 rfl (by omega) (by omega) ?_
          refine g_goto (tgt := 48) dX6_sheetOf_44 (by decide) ?_
          refine g_areturn dX6_sheetOf_48 rfl ⟨_, rfl, ?_⟩
          first
            | exact ⟨Or.inr ⟨by omega, rfl⟩, rfl⟩
            | (rw [crk hf (by omega)]; exact ⟨Or.inl ⟨by omega, rfl⟩, rfl⟩)

theorem cc6_bit {D : Nat} (hD : 1 ≤ D) (σ : am_HS)  (a m : Nat) (ha : a < 2 ^ 31) (hm : m < 32) : am_Do lc D mX6_bit σ [vI (a : Int), vI (m : Int)] (qI fun z s => (z = 1 ∧ hasB a m ∨ z = 0 ∧ ¬ hasB a m) ∧ s = σ) := by
  obtain ⟨d, rfl⟩ : ∃ d, D = d + 1 := ⟨D - 1, by omega⟩
  refine am_enter rfl rfl (Nat.le_of_ble_eq_true rfl) ?_
  refine g_iload_n dX6_bit_0 rfl ?_
  refine g_iload_n dX6_bit_1 rfl ?_
  refine g_ishr dX6_bit_2 (bt_shr ha hm) ?_
  refine g_iconst dX6_bit_3 ⟨by decide, by decide⟩ ?_
  refine g_iand dX6_bit_4 (bt_bit ha hm) ?_
  refine g_ireturn dX6_bit_5 (Or.inl rfl) ⟨_, rfl, ?_⟩
  refine ⟨?_, rfl⟩
  by_cases h : a.testBit m = true
  · exact Or.inl ⟨if_pos h, h⟩
  · exact Or.inr ⟨if_neg h, h⟩

theorem cc6_part {D : Nat} (hD : 2 ≤ D) (σ : am_HS)  {v : Vl} (hv : vok v) (x q : Int) (hx : x = encV v) (hq : q = 0 ∨ q = 1) : am_Do lc D mX6_part σ [vL x, vI q] (qI fun z s => z = (if tgV v = 1 then (if q = 0 then upV v else dnV v) else q) ∧ s = σ) := by
  have hxr : rL x := by rw [hx]; exact encV_r hv
  obtain ⟨d, rfl⟩ : ∃ d, D = d + 1 := ⟨D - 1, by omega⟩
  refine am_enter rfl rfl (Nat.le_of_ble_eq_true rfl) ?_
  refine g_lload_n dX6_part_0 rfl ?_
  refine g_callsI dX6_part_1 tm_6_241 rfl ⟨Nat.le_of_ble_eq_true rfl, rfl, rfl⟩ (Nat.le_of_ble_eq_true rfl) (cc4_isNumber (by omega) σ _ hxr) (fun z1 s1 h1 => ?_)
  obtain ⟨h1, e1⟩ := h1
  obtain rfl := e1.symm
  refine g_if_ne (tgt := 9) dX6_part_4 (by decide) (fun c4 => ?_) (fun c4 => ?_)
  · refine g_iload_n dX6_part_9 rfl ?_
    refine g_if_ne (tgt := 20) dX6_part_10 (by decide) (fun c10 => ?_) (fun c10 => ?_)
    · refine g_lload_n dX6_part_20 rfl ?_
      refine g_callsL dX6_part_21 tm_6_284 rfl ⟨Nat.le_of_ble_eq_true rfl, rfl, rfl⟩ (Nat.le_of_ble_eq_true rfl) (cc4_lower (by omega) σ _ hxr) (fun z21 s21 h21 => ?_)
      obtain ⟨rfl, e21⟩ := h21
      obtain rfl := e21.symm
      obtain ⟨u1, d1, rfl, b1, b2, b3, b4, b5, b6⟩ := enc_n hv hx (by omega)
      refine g_l2i dX6_part_24 ⟨by omega, by omega⟩ ?_
      refine g_ireturn dX6_part_25 (Or.inl rfl) ⟨_, rfl, ?_⟩
      refine ⟨?_, rfl⟩
      first
        | (rw [if_pos (show tgV (vN u1 d1) = 1 from rfl), if_pos (by omega)]; exact b5)
        | (rw [if_pos (show tgV (vN u1 d1) = 1 from rfl), if_neg (by omega)]; exact b6)
        | (have hz0 : x % 4294967296 = 0 := by omega
           rcases enc_nn hv hx hz0 with e | e
           · subst e; exact (if_neg (by decide)).symm
           · subst e; exact (if_neg (by decide)).symm)
    · refine g_lload_n dX6_part_13 rfl ?_
      refine g_callsL dX6_part_14 tm_6_280 rfl ⟨Nat.le_of_ble_eq_true rfl, rfl, rfl⟩ (Nat.le_of_ble_eq_true rfl) (cc4_upper (by omega) σ _ hxr) (fun z14 s14 h14 => ?_)
      obtain ⟨rfl, e14⟩ := h14
      obtain rfl := e14.symm
      obtain ⟨u1, d1, rfl, b1, b2, b3, b4, b5, b6⟩ := enc_n hv hx (by omega)
      refine g_goto (tgt := 24) dX6_part_17 (by decide) ?_
      refine g_l2i dX6_part_24 ⟨by omega, by omega⟩ ?_
      refine g_ireturn dX6_part_25 (Or.inl rfl) ⟨_, rfl, ?_⟩
      refine ⟨?_, rfl⟩
      first
        | (rw [if_pos (show tgV (vN u1 d1) = 1 from rfl), if_pos (by omega)]; exact b5)
        | (rw [if_pos (show tgV (vN u1 d1) = 1 from rfl), if_neg (by omega)]; exact b6)
        | (have hz0 : x % 4294967296 = 0 := by omega
           rcases enc_nn hv hx hz0 with e | e
           · subst e; exact (if_neg (by decide)).symm
           · subst e; exact (if_neg (by decide)).symm)
  · refine g_iload_n dX6_part_7 rfl ?_
    refine g_ireturn dX6_part_8 (Or.inl rfl) ⟨_, rfl, ?_⟩
    refine ⟨?_, rfl⟩
    first
      | (rw [if_pos (show tgV (vN u1 d1) = 1 from rfl), if_pos (by omega)]; exact b5)
      | (rw [if_pos (show tgV (vN u1 d1) = 1 from rfl), if_neg (by omega)]; exact b6)
      | (have hz0 : x % 4294967296 = 0 := by omega
         rcases enc_nn hv hx hz0 with e | e
         · subst e; exact (if_neg (by decide)).symm
         · subst e; exact (if_neg (by decide)).symm)

theorem cc6_inGroup {D : Nat} (hD : 2 ≤ D) (σ : am_HS) {b : Nat} (hf : σ.2.2 = cH b) (hg : GC σ) (p g : Int) : am_Do lc D mX6_inGroup σ [vR (some 0), vI p, vI g] (qI fun z s => (z = 1 ∧ (0 ≤ p ∧ p < hI σ 0 7 ∧ hI σ 1 p.toNat = g) ∨ z = 0 ∧ ¬ (0 ≤ p ∧ p < hI σ 0 7 ∧ hI σ 1 p.toNat = g)) ∧ s = σ) := by
  obtain ⟨hg1, hg2, hrf⟩ := id hg
  obtain ⟨d, rfl⟩ : ∃ d, D = d + 1 := ⟨D - 1, by omega⟩
  refine am_enter rfl rfl (Nat.le_of_ble_eq_true rfl) ?_
  refine g_aload_n dX6_inGroup_0 rfl ?_
  refine g_iload_n dX6_inGroup_1 rfl ?_
  refine g_callvI dX6_inGroup_2 tm_6_59 rfl ⟨rfl, rfl⟩ rfl (Nat.le_of_ble_eq_true rfl) (cc6_isPupil (by omega) σ hf _ (by omega)) (fun z2 s2 h2 => ?_)
  obtain ⟨h2, e2⟩ := h2
  obtain rfl := e2.symm
  refine g_if_eq (tgt := 22) dX6_inGroup_5 (by decide) (fun c5 => ?_) (fun c5 => ?_)
  · refine g_iconst dX6_inGroup_22 ⟨by decide, by decide⟩ ?_
    refine g_ireturn dX6_inGroup_23 (Or.inr ⟨rfl, by omega⟩) ⟨_, rfl, ?_⟩
    exact ⟨by omega, rfl⟩
  · refine g_aload_n dX6_inGroup_8 rfl ?_
    refine g_getA dX6_inGroup_9 tf_6_9 rfl rfl (crf hf rfl) ?_
    refine g_iload_n dX6_inGroup_12 rfl ?_
    refine g_ialdN (p.toNat) dX6_inGroup_13 rfl (by omega) (by omega) ?_
    refine g_iload_n dX6_inGroup_14 rfl ?_
    refine g_icmp_ne (tgt := 22) dX6_inGroup_15 (by decide) (fun c15 => ?_) (fun c15 => ?_)
    · refine g_iconst dX6_inGroup_22 ⟨by decide, by decide⟩ ?_
      refine g_ireturn dX6_inGroup_23 (Or.inr ⟨rfl, by omega⟩) ⟨_, rfl, ?_⟩
      exact ⟨by omega, rfl⟩
    · refine g_iconst dX6_inGroup_18 ⟨by decide, by decide⟩ ?_
      refine g_goto (tgt := 23) dX6_inGroup_19 (by decide) ?_
      refine g_ireturn dX6_inGroup_23 (Or.inr ⟨rfl, by omega⟩) ⟨_, rfl, ?_⟩
      exact ⟨by omega, rfl⟩

theorem cc6_pupil {D : Nat} (hD : 2 ≤ D) (σ : am_HS) {b : Nat} (hf : σ.2.2 = cH b) (hg : GC σ) : am_Do lc D mX6_pupil σ [vR (some 0)] (qI fun z s => (hI σ 0 7 = 6 ∧ z = -6 ∧ s = uI σ 8 6 (hI σ 8 6 + 1)) ∨ (hI σ 0 7 < 6 ∧ z = hI σ 0 7 ∧ s = uI (uI σ 1 (hI σ 0 7).toNat (hI σ 0 7)) 0 7 (hI σ 0 7 + 1))) := by
  obtain ⟨hg1, hg2, hrf⟩ := id hg
  obtain ⟨d, rfl⟩ : ∃ d, D = d + 1 := ⟨D - 1, by omega⟩
  refine am_enter rfl rfl (Nat.le_of_ble_eq_true rfl) ?_
  refine g_aload_n dX6_pupil_0 rfl ?_
  refine g_getI dX6_pupil_1 tf_6_51 rfl rfl ?_
  refine g_if_lt (tgt := 19) dX6_pupil_4 (by decide) (fun c4 => ?_) (fun c4 => ?_)
  · exfalso; omega
  · refine g_aload_n dX6_pupil_7 rfl ?_
    refine g_getI dX6_pupil_8 tf_6_51 rfl rfl ?_
    refine g_aload_n dX6_pupil_11 rfl ?_
    refine g_getA dX6_pupil_12 tf_6_9 rfl rfl (crf hf rfl) ?_
    refine g_alen dX6_pupil_15 rfl (by decide) ?_
    refine g_icmp_lt (tgt := 26) dX6_pupil_16 (by decide) (fun c16 => ?_) (fun c16 => ?_)
    · refine g_aload_n dX6_pupil_26 rfl ?_
      refine g_getA dX6_pupil_27 tf_6_9 rfl rfl (crf hf rfl) ?_
      refine g_aload_n dX6_pupil_30 rfl ?_
      refine g_getI dX6_pupil_31 tf_6_51 rfl rfl ?_
      refine g_aload_n dX6_pupil_34 rfl ?_
      refine g_getI dX6_pupil_35 tf_6_51 rfl rfl ?_
      refine g_iastN ((hI σ 0 7).toNat) dX6_pupil_38 rfl (by omega) (by omega) ?_
      refine g_aload_n dX6_pupil_39 rfl ?_
      refine g_dup dX6_pupil_40 rfl ?_
      refine g_getI dX6_pupil_41 tf_6_51 rfl rfl ?_
      rw [hI_uI_n (by omega)]
      refine g_dup_x1 dX6_pupil_44 rfl rfl ?_
      refine g_iconst dX6_pupil_45 ⟨by decide, by decide⟩ ?_
      refine g_iadd dX6_pupil_46 rfl ⟨by omega, by omega⟩ ?_
      refine g_putI dX6_pupil_47 tf_6_51 rfl rfl rfl ?_
      refine g_ireturn dX6_pupil_50 (Or.inl rfl) ⟨_, rfl, ?_⟩
      first
        | exact Or.inl ⟨by omega, rfl, rfl⟩
        | exact Or.inr ⟨by omega, rfl, rfl⟩
    · refine g_aload_n dX6_pupil_19 rfl ?_
      refine g_bipush dX6_pupil_20 (by decide) ?_
      refine g_callvI dX6_pupil_22 tm_6_55 rfl ⟨rfl, rfl⟩ rfl (Nat.le_of_ble_eq_true rfl) (cc6_refuse (by omega) σ hf _ ⟨by omega, by omega⟩ hrf) (fun z22 s22 h22 => ?_)
      obtain ⟨rfl, rfl⟩ := h22
      refine g_ireturn dX6_pupil_25 (Or.inl rfl) ⟨_, rfl, ?_⟩
      first
        | exact Or.inl ⟨by omega, rfl, rfl⟩
        | exact Or.inr ⟨by omega, rfl, rfl⟩

theorem cc6_group {D : Nat} (hD : 2 ≤ D) (σ : am_HS) {b : Nat} (hf : σ.2.2 = cH b) (hg : GC σ) (p g : Int) : am_Do lc D mX6_group σ [vR (some 0), vI p, vI g] (qI fun z s => (¬ (0 ≤ p ∧ p < hI σ 0 7 ∧ 0 ≤ g ∧ g < 6) ∧ z = -1 ∧ s = uI σ 8 1 (hI σ 8 1 + 1)) ∨ ((0 ≤ p ∧ p < hI σ 0 7 ∧ 0 ≤ g ∧ g < 6) ∧ z = hI σ 1 p.toNat ∧ s = uI σ 1 p.toNat g)) := by
  obtain ⟨hg1, hg2, hrf⟩ := id hg
  obtain ⟨d, rfl⟩ : ∃ d, D = d + 1 := ⟨D - 1, by omega⟩
  refine am_enter rfl rfl (Nat.le_of_ble_eq_true rfl) ?_
  refine g_aload_n dX6_group_0 rfl ?_
  refine g_iload_n dX6_group_1 rfl ?_
  refine g_callvI dX6_group_2 tm_6_59 rfl ⟨rfl, rfl⟩ rfl (Nat.le_of_ble_eq_true rfl) (cc6_isPupil (by omega) σ hf _ (by omega)) (fun z2 s2 h2 => ?_)
  obtain ⟨h2, e2⟩ := h2
  obtain rfl := e2.symm
  refine g_if_eq (tgt := 18) dX6_group_5 (by decide) (fun c5 => ?_) (fun c5 => ?_)
  · refine g_aload_n dX6_group_18 rfl ?_
    refine g_iconst dX6_group_19 ⟨by decide, by decide⟩ ?_
    refine g_callvI dX6_group_20 tm_6_55 rfl ⟨rfl, rfl⟩ rfl (Nat.le_of_ble_eq_true rfl) (cc6_refuse (by omega) σ hf _ ⟨by omega, by omega⟩ hrf) (fun z20 s20 h20 => ?_)
    obtain ⟨rfl, rfl⟩ := h20
    refine g_ireturn dX6_group_23 (Or.inl rfl) ⟨_, rfl, ?_⟩
    first
      | exact Or.inl ⟨by omega, rfl, rfl⟩
      | exact Or.inr ⟨by omega, rfl, rfl⟩
  · refine g_iload_n dX6_group_8 rfl ?_
    refine g_if_lt (tgt := 18) dX6_group_9 (by decide) (fun c9 => ?_) (fun c9 => ?_)
    · refine g_aload_n dX6_group_18 rfl ?_
      refine g_iconst dX6_group_19 ⟨by decide, by decide⟩ ?_
      refine g_callvI dX6_group_20 tm_6_55 rfl ⟨rfl, rfl⟩ rfl (Nat.le_of_ble_eq_true rfl) (cc6_refuse (by omega) σ hf _ ⟨by omega, by omega⟩ hrf) (fun z20 s20 h20 => ?_)
      obtain ⟨rfl, rfl⟩ := h20
      refine g_ireturn dX6_group_23 (Or.inl rfl) ⟨_, rfl, ?_⟩
      first
        | exact Or.inl ⟨by omega, rfl, rfl⟩
        | exact Or.inr ⟨by omega, rfl, rfl⟩
    · refine g_iload_n dX6_group_12 rfl ?_
      refine g_bipush dX6_group_13 (by decide) ?_
      refine g_icmp_lt (tgt := 24) dX6_group_15 (by decide) (fun c15 => ?_) (fun c15 => ?_)
      · refine g_aload_n dX6_group_24 rfl ?_
        refine g_getA dX6_group_25 tf_6_9 rfl rfl (crf hf rfl) ?_
        refine g_iload_n dX6_group_28 rfl ?_
        refine g_ialdN (p.toNat) dX6_group_29 rfl (by omega) (by omega) ?_
        refine g_istore_n dX6_group_30 (by decide) rfl ?_
        refine g_aload_n dX6_group_31 rfl ?_
        refine g_getA dX6_group_32 tf_6_9 rfl rfl (crf hf rfl) ?_
        refine g_iload_n dX6_group_35 rfl ?_
        refine g_iload_n dX6_group_36 rfl ?_
        refine g_iastN (p.toNat) dX6_group_37 rfl (by omega) (by omega) ?_
        refine g_iload_n dX6_group_38 rfl ?_
        refine g_ireturn dX6_group_39 (Or.inl rfl) ⟨_, rfl, ?_⟩
        first
          | exact Or.inl ⟨by omega, rfl, rfl⟩
          | exact Or.inr ⟨by omega, rfl, rfl⟩
      · refine g_aload_n dX6_group_18 rfl ?_
        refine g_iconst dX6_group_19 ⟨by decide, by decide⟩ ?_
        refine g_callvI dX6_group_20 tm_6_55 rfl ⟨rfl, rfl⟩ rfl (Nat.le_of_ble_eq_true rfl) (cc6_refuse (by omega) σ hf _ ⟨by omega, by omega⟩ hrf) (fun z20 s20 h20 => ?_)
        obtain ⟨rfl, rfl⟩ := h20
        refine g_ireturn dX6_group_23 (Or.inl rfl) ⟨_, rfl, ?_⟩
        first
          | exact Or.inl ⟨by omega, rfl, rfl⟩
          | exact Or.inr ⟨by omega, rfl, rfl⟩

theorem cc6_work {D : Nat} (hD : 3 ≤ D) (σ : am_HS) {b : Nat} (hf : σ.2.2 = cH b) (hg : GC σ) (k m t l : Int) : am_Do lc D mX6_work σ [vR (some 0), vI k, vI m, vI t, vI l] (qI fun z s => (¬ (0 ≤ k ∧ k < 4) ∧ z = -1 ∧ s = uI σ 8 1 (hI σ 8 1 + 1)) ∨ ((0 ≤ k ∧ k < 4) ∧ (m < 1 ∨ t < 0 ∨ l < 0) ∧ z = -4 ∧ s = uI σ 8 4 (hI σ 8 4 + 1)) ∨ ((0 ≤ k ∧ k < 4) ∧ ¬ (m < 1 ∨ t < 0 ∨ l < 0) ∧ (20 < m ∨ 100000 < t ∨ 100 < l ∨ hI σ 0 8 = 10) ∧ z = -6 ∧ s = uI σ 8 6 (hI σ 8 6 + 1)) ∨ ((0 ≤ k ∧ k < 4) ∧ ¬ (m < 1 ∨ t < 0 ∨ l < 0) ∧ ¬ (20 < m ∨ 100000 < t ∨ 100 < l ∨ hI σ 0 8 = 10) ∧ z = hI σ 0 8 ∧ s = uI (uI (uI (uI (uI σ 0 8 (hI σ 0 8 + 1)) (37 + (hI σ 0 8).toNat) 0 k) (37 + (hI σ 0 8).toNat) 1 m) (37 + (hI σ 0 8).toNat) 2 t) (37 + (hI σ 0 8).toNat) 3 l)) := by
  obtain ⟨hg1, hg2, hrf⟩ := id hg
  obtain ⟨d, rfl⟩ : ∃ d, D = d + 1 := ⟨D - 1, by omega⟩
  refine am_enter rfl rfl (Nat.le_of_ble_eq_true rfl) ?_
  refine g_iload_n dX6_work_0 rfl ?_
  refine g_if_lt (tgt := 9) dX6_work_1 (by decide) (fun c1 => ?_) (fun c1 => ?_)
  · refine g_aload_n dX6_work_9 rfl ?_
    refine g_iconst dX6_work_10 ⟨by decide, by decide⟩ ?_
    refine g_callvI dX6_work_11 tm_6_55 rfl ⟨rfl, rfl⟩ rfl (Nat.le_of_ble_eq_true rfl) (cc6_refuse (by omega) σ hf _ ⟨by omega, by omega⟩ hrf) (fun z11 s11 h11 => ?_)
    obtain ⟨rfl, rfl⟩ := h11
    refine g_ireturn dX6_work_14 (Or.inl rfl) ⟨_, rfl, ?_⟩
    first
      | exact Or.inl ⟨by omega, rfl, rfl⟩
      | exact Or.inr (Or.inl ⟨by omega, by omega, rfl, rfl⟩)
      | exact Or.inr (Or.inr (Or.inl ⟨by omega, by omega, by omega, rfl, rfl⟩))
      | exact Or.inr (Or.inr (Or.inr ⟨by omega, by omega, by omega, rfl, rfl⟩))
  · refine g_iload_n dX6_work_4 rfl ?_
    refine g_iconst dX6_work_5 ⟨by decide, by decide⟩ ?_
    refine g_icmp_le (tgt := 15) dX6_work_6 (by decide) (fun c6 => ?_) (fun c6 => ?_)
    · refine g_iload_n dX6_work_15 rfl ?_
      refine g_iconst dX6_work_16 ⟨by decide, by decide⟩ ?_
      refine g_icmp_lt (tgt := 29) dX6_work_17 (by decide) (fun c17 => ?_) (fun c17 => ?_)
      · refine g_aload_n dX6_work_29 rfl ?_
        refine g_bipush dX6_work_30 (by decide) ?_
        refine g_callvI dX6_work_32 tm_6_55 rfl ⟨rfl, rfl⟩ rfl (Nat.le_of_ble_eq_true rfl) (cc6_refuse (by omega) σ hf _ ⟨by omega, by omega⟩ hrf) (fun z32 s32 h32 => ?_)
        obtain ⟨rfl, rfl⟩ := h32
        refine g_ireturn dX6_work_35 (Or.inl rfl) ⟨_, rfl, ?_⟩
        first
          | exact Or.inl ⟨by omega, rfl, rfl⟩
          | exact Or.inr (Or.inl ⟨by omega, by omega, rfl, rfl⟩)
          | exact Or.inr (Or.inr (Or.inl ⟨by omega, by omega, by omega, rfl, rfl⟩))
          | exact Or.inr (Or.inr (Or.inr ⟨by omega, by omega, by omega, rfl, rfl⟩))
      · refine g_iload_n dX6_work_20 rfl ?_
        refine g_if_lt (tgt := 29) dX6_work_21 (by decide) (fun c21 => ?_) (fun c21 => ?_)
        · refine g_aload_n dX6_work_29 rfl ?_
          refine g_bipush dX6_work_30 (by decide) ?_
          refine g_callvI dX6_work_32 tm_6_55 rfl ⟨rfl, rfl⟩ rfl (Nat.le_of_ble_eq_true rfl) (cc6_refuse (by omega) σ hf _ ⟨by omega, by omega⟩ hrf) (fun z32 s32 h32 => ?_)
          obtain ⟨rfl, rfl⟩ := h32
          refine g_ireturn dX6_work_35 (Or.inl rfl) ⟨_, rfl, ?_⟩
          first
            | exact Or.inl ⟨by omega, rfl, rfl⟩
            | exact Or.inr (Or.inl ⟨by omega, by omega, rfl, rfl⟩)
            | exact Or.inr (Or.inr (Or.inl ⟨by omega, by omega, by omega, rfl, rfl⟩))
            | exact Or.inr (Or.inr (Or.inr ⟨by omega, by omega, by omega, rfl, rfl⟩))
        · refine g_iload dX6_work_24 rfl ?_
          refine g_if_ge (tgt := 36) dX6_work_26 (by decide) (fun c26 => ?_) (fun c26 => ?_)
          · refine g_iload_n dX6_work_36 rfl ?_
            refine g_bipush dX6_work_37 (by decide) ?_
            refine g_icmp_gt (tgt := 64) dX6_work_39 (by decide) (fun c39 => ?_) (fun c39 => ?_)
            · refine g_aload_n dX6_work_64 rfl ?_
              refine g_bipush dX6_work_65 (by decide) ?_
              refine g_callvI dX6_work_67 tm_6_55 rfl ⟨rfl, rfl⟩ rfl (Nat.le_of_ble_eq_true rfl) (cc6_refuse (by omega) σ hf _ ⟨by omega, by omega⟩ hrf) (fun z67 s67 h67 => ?_)
              obtain ⟨rfl, rfl⟩ := h67
              refine g_ireturn dX6_work_70 (Or.inl rfl) ⟨_, rfl, ?_⟩
              first
                | exact Or.inl ⟨by omega, rfl, rfl⟩
                | exact Or.inr (Or.inl ⟨by omega, by omega, rfl, rfl⟩)
                | exact Or.inr (Or.inr (Or.inl ⟨by omega, by omega, by omega, rfl, rfl⟩))
                | exact Or.inr (Or.inr (Or.inr ⟨by omega, by omega, by omega, rfl, rfl⟩))
            · refine g_iload_n dX6_work_42 rfl ?_
              refine g_ldc dX6_work_43 ti_6_63 ⟨by decide, by decide⟩ ?_
              refine g_icmp_gt (tgt := 64) dX6_work_45 (by decide) (fun c45 => ?_) (fun c45 => ?_)
              · refine g_aload_n dX6_work_64 rfl ?_
                refine g_bipush dX6_work_65 (by decide) ?_
                refine g_callvI dX6_work_67 tm_6_55 rfl ⟨rfl, rfl⟩ rfl (Nat.le_of_ble_eq_true rfl) (cc6_refuse (by omega) σ hf _ ⟨by omega, by omega⟩ hrf) (fun z67 s67 h67 => ?_)
                obtain ⟨rfl, rfl⟩ := h67
                refine g_ireturn dX6_work_70 (Or.inl rfl) ⟨_, rfl, ?_⟩
                first
                  | exact Or.inl ⟨by omega, rfl, rfl⟩
                  | exact Or.inr (Or.inl ⟨by omega, by omega, rfl, rfl⟩)
                  | exact Or.inr (Or.inr (Or.inl ⟨by omega, by omega, by omega, rfl, rfl⟩))
                  | exact Or.inr (Or.inr (Or.inr ⟨by omega, by omega, by omega, rfl, rfl⟩))
              · refine g_iload dX6_work_48 rfl ?_
                refine g_bipush dX6_work_50 (by decide) ?_
                refine g_icmp_gt (tgt := 64) dX6_work_52 (by decide) (fun c52 => ?_) (fun c52 => ?_)
                · refine g_aload_n dX6_work_64 rfl ?_
                  refine g_bipush dX6_work_65 (by decide) ?_
                  refine g_callvI dX6_work_67 tm_6_55 rfl ⟨rfl, rfl⟩ rfl (Nat.le_of_ble_eq_true rfl) (cc6_refuse (by omega) σ hf _ ⟨by omega, by omega⟩ hrf) (fun z67 s67 h67 => ?_)
                  obtain ⟨rfl, rfl⟩ := h67
                  refine g_ireturn dX6_work_70 (Or.inl rfl) ⟨_, rfl, ?_⟩
                  first
                    | exact Or.inl ⟨by omega, rfl, rfl⟩
                    | exact Or.inr (Or.inl ⟨by omega, by omega, rfl, rfl⟩)
                    | exact Or.inr (Or.inr (Or.inl ⟨by omega, by omega, by omega, rfl, rfl⟩))
                    | exact Or.inr (Or.inr (Or.inr ⟨by omega, by omega, by omega, rfl, rfl⟩))
                · refine g_aload_n dX6_work_55 rfl ?_
                  refine g_getI dX6_work_56 tf_6_64 rfl rfl ?_
                  refine g_bipush dX6_work_59 (by decide) ?_
                  refine g_icmp_lt (tgt := 71) dX6_work_61 (by decide) (fun c61 => ?_) (fun c61 => ?_)
                  · refine g_aload_n dX6_work_71 rfl ?_
                    refine g_dup dX6_work_72 rfl ?_
                    refine g_getI dX6_work_73 tf_6_64 rfl rfl ?_
                    refine g_dup_x1 dX6_work_76 rfl rfl ?_
                    refine g_iconst dX6_work_77 ⟨by decide, by decide⟩ ?_
                    refine g_iadd dX6_work_78 rfl ⟨by omega, by omega⟩ ?_
                    refine g_putI dX6_work_79 tf_6_64 rfl rfl rfl ?_
                    refine g_istore dX6_work_82 (by decide) rfl ?_
                    refine g_aload_n dX6_work_84 rfl ?_
                    refine g_iload dX6_work_85 rfl ?_
                    refine g_callvR dX6_work_87 tm_6_67 rfl ⟨rfl, rfl⟩ rfl (Nat.le_of_ble_eq_true rfl) (cc6_workAt (by omega) (uI σ 0 8 (hI σ 0 8 + 1)) hf _ (by rw [hI_uI_e ⟨by omega, by omega⟩]; omega)) (fun z87 s87 h87 => ?_)
                    obtain ⟨h87, rfl⟩ := h87
                    have hz87 : z87 = some (37 + (hI σ 0 8).toNat) := by
                      rcases h87 with a | a
                      · exact a.2
                      · exact absurd (show 0 ≤ hI σ 0 8 ∧ hI σ 0 8 < hI (uI σ 0 8 (hI σ 0 8 + 1)) 0 8 from by rw [hI_uI_e ⟨by omega, by omega⟩]; omega) a.1
                    clear h87
                    subst hz87
                    have hw : (hI σ 0 8).toNat < 10 := by omega
                    refine g_astore dX6_work_90 (by decide) rfl ?_
                    refine g_aload dX6_work_92 rfl ?_
                    refine g_ifnull (tgt := 122) dX6_work_94 (by decide) (fun c94 => ?_) (fun c94 => ?_)
                    · exact absurd c94 (by simp)
                    · refine g_aload dX6_work_97 rfl ?_
                      refine g_iload_n dX6_work_99 rfl ?_
                      refine g_putI dX6_work_100 tf_6_71 (lc_w hw) rfl rfl ?_
                      refine g_aload dX6_work_103 rfl ?_
                      refine g_iload_n dX6_work_105 rfl ?_
                      refine g_putI dX6_work_106 tf_6_74 (lc_w hw) rfl rfl ?_
                      refine g_aload dX6_work_109 rfl ?_
                      refine g_iload_n dX6_work_111 rfl ?_
                      refine g_putI dX6_work_112 tf_6_77 (lc_w hw) rfl rfl ?_
                      refine g_aload dX6_work_115 rfl ?_
                      refine g_iload dX6_work_117 rfl ?_
                      refine g_putI dX6_work_119 tf_6_80 (lc_w hw) rfl rfl ?_
                      refine g_iload dX6_work_122 rfl ?_
                      refine g_ireturn dX6_work_124 (Or.inl rfl) ⟨_, rfl, ?_⟩
                      first
                        | exact Or.inl ⟨by omega, rfl, rfl⟩
                        | exact Or.inr (Or.inl ⟨by omega, by omega, rfl, rfl⟩)
                        | exact Or.inr (Or.inr (Or.inl ⟨by omega, by omega, by omega, rfl, rfl⟩))
                        | exact Or.inr (Or.inr (Or.inr ⟨by omega, by omega, by omega, rfl, rfl⟩))
                  · refine g_aload_n dX6_work_64 rfl ?_
                    refine g_bipush dX6_work_65 (by decide) ?_
                    refine g_callvI dX6_work_67 tm_6_55 rfl ⟨rfl, rfl⟩ rfl (Nat.le_of_ble_eq_true rfl) (cc6_refuse (by omega) σ hf _ ⟨by omega, by omega⟩ hrf) (fun z67 s67 h67 => ?_)
                    obtain ⟨rfl, rfl⟩ := h67
                    refine g_ireturn dX6_work_70 (Or.inl rfl) ⟨_, rfl, ?_⟩
                    first
                      | exact Or.inl ⟨by omega, rfl, rfl⟩
                      | exact Or.inr (Or.inl ⟨by omega, by omega, rfl, rfl⟩)
                      | exact Or.inr (Or.inr (Or.inl ⟨by omega, by omega, by omega, rfl, rfl⟩))
                      | exact Or.inr (Or.inr (Or.inr ⟨by omega, by omega, by omega, rfl, rfl⟩))
          · refine g_aload_n dX6_work_29 rfl ?_
            refine g_bipush dX6_work_30 (by decide) ?_
            refine g_callvI dX6_work_32 tm_6_55 rfl ⟨rfl, rfl⟩ rfl (Nat.le_of_ble_eq_true rfl) (cc6_refuse (by omega) σ hf _ ⟨by omega, by omega⟩ hrf) (fun z32 s32 h32 => ?_)
            obtain ⟨rfl, rfl⟩ := h32
            refine g_ireturn dX6_work_35 (Or.inl rfl) ⟨_, rfl, ?_⟩
            first
              | exact Or.inl ⟨by omega, rfl, rfl⟩
              | exact Or.inr (Or.inl ⟨by omega, by omega, rfl, rfl⟩)
              | exact Or.inr (Or.inr (Or.inl ⟨by omega, by omega, by omega, rfl, rfl⟩))
              | exact Or.inr (Or.inr (Or.inr ⟨by omega, by omega, by omega, rfl, rfl⟩))
    · refine g_aload_n dX6_work_9 rfl ?_
      refine g_iconst dX6_work_10 ⟨by decide, by decide⟩ ?_
      refine g_callvI dX6_work_11 tm_6_55 rfl ⟨rfl, rfl⟩ rfl (Nat.le_of_ble_eq_true rfl) (cc6_refuse (by omega) σ hf _ ⟨by omega, by omega⟩ hrf) (fun z11 s11 h11 => ?_)
      obtain ⟨rfl, rfl⟩ := h11
      refine g_ireturn dX6_work_14 (Or.inl rfl) ⟨_, rfl, ?_⟩
      first
        | exact Or.inl ⟨by omega, rfl, rfl⟩
        | exact Or.inr (Or.inl ⟨by omega, by omega, rfl, rfl⟩)
        | exact Or.inr (Or.inr (Or.inl ⟨by omega, by omega, by omega, rfl, rfl⟩))
        | exact Or.inr (Or.inr (Or.inr ⟨by omega, by omega, by omega, rfl, rfl⟩))

theorem cc6_leave {D : Nat} (hD : 3 ≤ D) (σ : am_HS) {b : Nat} (hf : σ.2.2 = cH b) (hg : GC σ) (p w t : Int) : am_Do lc D mX6_leave σ [vR (some 0), vI p, vI w, vI t] (qI fun z s => (¬ (0 ≤ p ∧ p < hI σ 0 7 ∧ 0 ≤ w ∧ w < hI σ 0 8) ∧ z = -1 ∧ s = uI σ 8 1 (hI σ 8 1 + 1)) ∨ ((0 ≤ p ∧ p < hI σ 0 7 ∧ 0 ≤ w ∧ w < hI σ 0 8) ∧ ((t < 0 ∧ z = -4 ∧ s = uI σ 8 4 (hI σ 8 4 + 1)) ∨ (1000 < t ∧ z = -6 ∧ s = uI σ 8 6 (hI σ 8 6 + 1)) ∨ (0 ≤ t ∧ t ≤ 1000 ∧ z = hI σ (47 + 4 * (10 * p + w).toNat) 0 ∧ s = uI σ (47 + 4 * (10 * p + w).toNat) 0 t)))) := by
  obtain ⟨hg1, hg2, hrf⟩ := id hg
  obtain ⟨d, rfl⟩ : ∃ d, D = d + 1 := ⟨D - 1, by omega⟩
  refine am_enter rfl rfl (Nat.le_of_ble_eq_true rfl) ?_
  refine g_aload_n dX6_leave_0 rfl ?_
  refine g_iload_n dX6_leave_1 rfl ?_
  refine g_iload_n dX6_leave_2 rfl ?_
  refine g_callvR dX6_leave_3 tm_6_83 rfl ⟨rfl, rfl⟩ rfl (Nat.le_of_ble_eq_true rfl) (cc6_sheetOf (by omega) σ hf hg _ _) (fun z3 s3 h3 => ?_)
  obtain ⟨h3, e3⟩ := h3
  obtain rfl := e3.symm
  refine g_astore dX6_leave_6 (by decide) rfl ?_
  refine g_aload dX6_leave_8 rfl ?_
  refine g_ifnonnull (tgt := 19) dX6_leave_10 (by decide) (fun c10 => ?_) (fun c10 => ?_)
  · have hno : ¬ (0 ≤ p ∧ p < hI σ 0 7 ∧ 0 ≤ w ∧ w < hI σ 0 8) := by
      rcases h3 with a | a
      · exact absurd (a.2.symm.trans c10) (by simp)
      · exact a.1
    refine g_aload_n dX6_leave_13 rfl ?_
    refine g_iconst dX6_leave_14 ⟨by decide, by decide⟩ ?_
    refine g_callvI dX6_leave_15 tm_6_55 rfl ⟨rfl, rfl⟩ rfl (Nat.le_of_ble_eq_true rfl) (cc6_refuse (by omega) σ hf _ ⟨by omega, by omega⟩ hrf) (fun z15 s15 h15 => ?_)
    obtain ⟨rfl, rfl⟩ := h15
    refine g_ireturn dX6_leave_18 (Or.inl rfl) ⟨_, rfl, ?_⟩
    first
      | exact Or.inl ⟨hno, rfl, rfl⟩
      | exact Or.inr ⟨hin, Or.inl ⟨by omega, rfl, rfl⟩⟩
      | exact Or.inr ⟨hin, Or.inr (Or.inl ⟨by omega, rfl, rfl⟩)⟩
      | exact Or.inr ⟨hin, Or.inr (Or.inr ⟨by omega, by omega, rfl, rfl⟩)⟩
  · obtain ⟨hin, rfl⟩ : (0 ≤ p ∧ p < hI σ 0 7 ∧ 0 ≤ w ∧ w < hI σ 0 8) ∧ z3 = some (47 + 4 * (10 * p + w).toNat) := by
      rcases h3 with a | a
      · exact a
      · exact absurd a.2 c10
    obtain ⟨k, hk⟩ : ∃ k : Nat, (10 * p + w).toNat = k := ⟨_, rfl⟩
    rw [hk]
    have hs : k < 60 := by omega
    refine g_iload_n dX6_leave_19 rfl ?_
    refine g_if_ge (tgt := 30) dX6_leave_20 (by decide) (fun c20 => ?_) (fun c20 => ?_)
    · refine g_iload_n dX6_leave_30 rfl ?_
      refine g_sipush dX6_leave_31 (by decide) ?_
      refine g_icmp_le (tgt := 44) dX6_leave_34 (by decide) (fun c34 => ?_) (fun c34 => ?_)
      · refine g_aload dX6_leave_44 rfl ?_
        refine g_getI dX6_leave_46 tf_6_87 (lc_s hs) rfl ?_
        refine g_istore dX6_leave_49 (by decide) rfl ?_
        refine g_aload dX6_leave_51 rfl ?_
        refine g_iload_n dX6_leave_53 rfl ?_
        refine g_putI dX6_leave_54 tf_6_87 (lc_s hs) rfl rfl ?_
        refine g_iload dX6_leave_57 rfl ?_
        refine g_ireturn dX6_leave_59 (Or.inl rfl) ⟨_, rfl, ?_⟩
        first
          | exact Or.inl ⟨hno, rfl, rfl⟩
          | exact Or.inr ⟨hin, Or.inl ⟨by omega, rfl, rfl⟩⟩
          | exact Or.inr ⟨hin, Or.inr (Or.inl ⟨by omega, rfl, rfl⟩)⟩
          | exact Or.inr ⟨hin, Or.inr (Or.inr ⟨by omega, by omega, rfl, rfl⟩)⟩
      · refine g_aload_n dX6_leave_37 rfl ?_
        refine g_bipush dX6_leave_38 (by decide) ?_
        refine g_callvI dX6_leave_40 tm_6_55 rfl ⟨rfl, rfl⟩ rfl (Nat.le_of_ble_eq_true rfl) (cc6_refuse (by omega) σ hf _ ⟨by omega, by omega⟩ hrf) (fun z40 s40 h40 => ?_)
        obtain ⟨rfl, rfl⟩ := h40
        refine g_ireturn dX6_leave_43 (Or.inl rfl) ⟨_, rfl, ?_⟩
        first
          | exact Or.inl ⟨hno, rfl, rfl⟩
          | exact Or.inr ⟨hin, Or.inl ⟨by omega, rfl, rfl⟩⟩
          | exact Or.inr ⟨hin, Or.inr (Or.inl ⟨by omega, rfl, rfl⟩)⟩
          | exact Or.inr ⟨hin, Or.inr (Or.inr ⟨by omega, by omega, rfl, rfl⟩)⟩
    · refine g_aload_n dX6_leave_23 rfl ?_
      refine g_bipush dX6_leave_24 (by decide) ?_
      refine g_callvI dX6_leave_26 tm_6_55 rfl ⟨rfl, rfl⟩ rfl (Nat.le_of_ble_eq_true rfl) (cc6_refuse (by omega) σ hf _ ⟨by omega, by omega⟩ hrf) (fun z26 s26 h26 => ?_)
      obtain ⟨rfl, rfl⟩ := h26
      refine g_ireturn dX6_leave_29 (Or.inl rfl) ⟨_, rfl, ?_⟩
      first
        | exact Or.inl ⟨hno, rfl, rfl⟩
        | exact Or.inr ⟨hin, Or.inl ⟨by omega, rfl, rfl⟩⟩
        | exact Or.inr ⟨hin, Or.inr (Or.inl ⟨by omega, rfl, rfl⟩)⟩
        | exact Or.inr ⟨hin, Or.inr (Or.inr ⟨by omega, by omega, rfl, rfl⟩)⟩

theorem cc6_excuse {D : Nat} (hD : 3 ≤ D) (σ : am_HS) {b : Nat} (hf : σ.2.2 = cH b) (hg : GC σ) (p w on : Int) (hon : on = 0 ∨ on = 1) : am_Do lc D mX6_excuse σ [vR (some 0), vI p, vI w, vI on] (qI fun z s => (¬ (0 ≤ p ∧ p < hI σ 0 7 ∧ 0 ≤ w ∧ w < hI σ 0 8) ∧ z = -1 ∧ s = uI σ 8 1 (hI σ 8 1 + 1)) ∨ ((0 ≤ p ∧ p < hI σ 0 7 ∧ 0 ≤ w ∧ w < hI σ 0 8) ∧ hI σ (47 + 4 * (10 * p + w).toNat) 1 = on ∧ z = 0 ∧ s = σ) ∨ ((0 ≤ p ∧ p < hI σ 0 7 ∧ 0 ≤ w ∧ w < hI σ 0 8) ∧ hI σ (47 + 4 * (10 * p + w).toNat) 1 ≠ on ∧ z = 1 ∧ s = uI σ (47 + 4 * (10 * p + w).toNat) 1 on)) := by
  obtain ⟨hg1, hg2, hrf⟩ := id hg
  obtain ⟨d, rfl⟩ : ∃ d, D = d + 1 := ⟨D - 1, by omega⟩
  refine am_enter rfl rfl (Nat.le_of_ble_eq_true rfl) ?_
  refine g_aload_n dX6_excuse_0 rfl ?_
  refine g_iload_n dX6_excuse_1 rfl ?_
  refine g_iload_n dX6_excuse_2 rfl ?_
  refine g_callvR dX6_excuse_3 tm_6_83 rfl ⟨rfl, rfl⟩ rfl (Nat.le_of_ble_eq_true rfl) (cc6_sheetOf (by omega) σ hf hg _ _) (fun z3 s3 h3 => ?_)
  obtain ⟨h3, e3⟩ := h3
  obtain rfl := e3.symm
  refine g_astore dX6_excuse_6 (by decide) rfl ?_
  refine g_aload dX6_excuse_8 rfl ?_
  refine g_ifnonnull (tgt := 19) dX6_excuse_10 (by decide) (fun c10 => ?_) (fun c10 => ?_)
  · have hno : ¬ (0 ≤ p ∧ p < hI σ 0 7 ∧ 0 ≤ w ∧ w < hI σ 0 8) := by
      rcases h3 with a | a
      · exact absurd (a.2.symm.trans c10) (by simp)
      · exact a.1
    refine g_aload_n dX6_excuse_13 rfl ?_
    refine g_iconst dX6_excuse_14 ⟨by decide, by decide⟩ ?_
    refine g_callvI dX6_excuse_15 tm_6_55 rfl ⟨rfl, rfl⟩ rfl (Nat.le_of_ble_eq_true rfl) (cc6_refuse (by omega) σ hf _ ⟨by omega, by omega⟩ hrf) (fun z15 s15 h15 => ?_)
    obtain ⟨rfl, rfl⟩ := h15
    refine g_ireturn dX6_excuse_18 (Or.inl rfl) ⟨_, rfl, ?_⟩
    first
      | exact Or.inl ⟨hno, rfl, rfl⟩
      | exact Or.inr (Or.inl ⟨hin, by omega, rfl, rfl⟩)
      | exact Or.inr (Or.inr ⟨hin, by omega, rfl, rfl⟩)
  · obtain ⟨hin, rfl⟩ : (0 ≤ p ∧ p < hI σ 0 7 ∧ 0 ≤ w ∧ w < hI σ 0 8) ∧ z3 = some (47 + 4 * (10 * p + w).toNat) := by
      rcases h3 with a | a
      · exact a
      · exact absurd a.2 c10
    obtain ⟨k, hk⟩ : ∃ k : Nat, (10 * p + w).toNat = k := ⟨_, rfl⟩
    rw [hk]
    have hs : k < 60 := by omega
    refine g_aload dX6_excuse_19 rfl ?_
    refine g_getZ dX6_excuse_21 tf_6_90 (lc_s hs) rfl ?_
    refine g_iload_n dX6_excuse_24 rfl ?_
    refine g_icmp_ne (tgt := 30) dX6_excuse_25 (by decide) (fun c25 => ?_) (fun c25 => ?_)
    · refine g_aload dX6_excuse_30 rfl ?_
      refine g_iload_n dX6_excuse_32 rfl ?_
      refine g_putZ dX6_excuse_33 tf_6_90 (lc_s hs) rfl rfl (by omega) ?_
      refine g_iconst dX6_excuse_36 ⟨by decide, by decide⟩ ?_
      refine g_ireturn dX6_excuse_37 (Or.inl rfl) ⟨_, rfl, ?_⟩
      first
        | exact Or.inl ⟨hno, rfl, rfl⟩
        | exact Or.inr (Or.inl ⟨hin, by omega, rfl, rfl⟩)
        | exact Or.inr (Or.inr ⟨hin, by omega, rfl, rfl⟩)
    · refine g_iconst dX6_excuse_28 ⟨by decide, by decide⟩ ?_
      refine g_ireturn dX6_excuse_29 (Or.inl rfl) ⟨_, rfl, ?_⟩
      first
        | exact Or.inl ⟨hno, rfl, rfl⟩
        | exact Or.inr (Or.inl ⟨hin, by omega, rfl, rfl⟩)
        | exact Or.inr (Or.inr ⟨hin, by omega, rfl, rfl⟩)

theorem cc6_tick {D : Nat} (hD : 2 ≤ D) (σ : am_HS) {b : Nat} (hf : σ.2.2 = cH b) (hg : GC σ) (ht : 0 ≤ hI σ 0 9 ∧ hI σ 0 9 ≤ 100000) (n : Int) : am_Do lc D mX6_tick σ [vR (some 0), vI n] (qI fun z s => (n < 1 ∧ z = -4 ∧ s = uI σ 8 4 (hI σ 8 4 + 1)) ∨ (1 ≤ n ∧ 100000 - hI σ 0 9 < n ∧ z = -6 ∧ s = uI σ 8 6 (hI σ 8 6 + 1)) ∨ (1 ≤ n ∧ n ≤ 100000 - hI σ 0 9 ∧ z = hI σ 0 9 + n ∧ s = uI σ 0 9 (hI σ 0 9 + n))) := by
  obtain ⟨hg1, hg2, hrf⟩ := id hg
  obtain ⟨d, rfl⟩ : ∃ d, D = d + 1 := ⟨D - 1, by omega⟩
  refine am_enter rfl rfl (Nat.le_of_ble_eq_true rfl) ?_
  refine g_iload_n dX6_tick_0 rfl ?_
  refine g_iconst dX6_tick_1 ⟨by decide, by decide⟩ ?_
  refine g_icmp_ge (tgt := 12) dX6_tick_2 (by decide) (fun c2 => ?_) (fun c2 => ?_)
  · refine g_iload_n dX6_tick_12 rfl ?_
    refine g_ldc dX6_tick_13 ti_6_63 ⟨by decide, by decide⟩ ?_
    refine g_aload_n dX6_tick_15 rfl ?_
    refine g_getI dX6_tick_16 tf_6_94 rfl rfl ?_
    refine g_isub dX6_tick_19 rfl ⟨by omega, by omega⟩ ?_
    refine g_icmp_le (tgt := 30) dX6_tick_20 (by decide) (fun c20 => ?_) (fun c20 => ?_)
    · refine g_aload_n dX6_tick_30 rfl ?_
      refine g_dup dX6_tick_31 rfl ?_
      refine g_getI dX6_tick_32 tf_6_94 rfl rfl ?_
      refine g_iload_n dX6_tick_35 rfl ?_
      refine g_iadd dX6_tick_36 rfl ⟨by omega, by omega⟩ ?_
      refine g_putI dX6_tick_37 tf_6_94 rfl rfl rfl ?_
      refine g_aload_n dX6_tick_40 rfl ?_
      refine g_getI dX6_tick_41 tf_6_94 rfl rfl ?_
      rw [hI_uI_e ⟨by omega, by omega⟩]
      refine g_ireturn dX6_tick_44 (Or.inl rfl) ⟨_, rfl, ?_⟩
      first
        | exact Or.inl ⟨by omega, rfl, rfl⟩
        | exact Or.inr (Or.inl ⟨by omega, by omega, rfl, rfl⟩)
        | exact Or.inr (Or.inr ⟨by omega, by omega, rfl, rfl⟩)
    · refine g_aload_n dX6_tick_23 rfl ?_
      refine g_bipush dX6_tick_24 (by decide) ?_
      refine g_callvI dX6_tick_26 tm_6_55 rfl ⟨rfl, rfl⟩ rfl (Nat.le_of_ble_eq_true rfl) (cc6_refuse (by omega) σ hf _ ⟨by omega, by omega⟩ hrf) (fun z26 s26 h26 => ?_)
      obtain ⟨rfl, rfl⟩ := h26
      refine g_ireturn dX6_tick_29 (Or.inl rfl) ⟨_, rfl, ?_⟩
      first
        | exact Or.inl ⟨by omega, rfl, rfl⟩
        | exact Or.inr (Or.inl ⟨by omega, by omega, rfl, rfl⟩)
        | exact Or.inr (Or.inr ⟨by omega, by omega, rfl, rfl⟩)
  · refine g_aload_n dX6_tick_5 rfl ?_
    refine g_bipush dX6_tick_6 (by decide) ?_
    refine g_callvI dX6_tick_8 tm_6_55 rfl ⟨rfl, rfl⟩ rfl (Nat.le_of_ble_eq_true rfl) (cc6_refuse (by omega) σ hf _ ⟨by omega, by omega⟩ hrf) (fun z8 s8 h8 => ?_)
    obtain ⟨rfl, rfl⟩ := h8
    refine g_ireturn dX6_tick_11 (Or.inl rfl) ⟨_, rfl, ?_⟩
    first
      | exact Or.inl ⟨by omega, rfl, rfl⟩
      | exact Or.inr (Or.inl ⟨by omega, by omega, rfl, rfl⟩)
      | exact Or.inr (Or.inr ⟨by omega, by omega, rfl, rfl⟩)

theorem cc6_name {D : Nat} (hD : 2 ≤ D) (σ : am_HS) {b : Nat} (hf : σ.2.2 = cH b) (hg : GC σ) (hb2 : b < 2) (hn12 : hI σ (6 + b) 0 ≤ 12) (r : Int) : am_Do lc D mX6_name σ [vR (some 0), vI r] (qI fun z s => (¬ (0 ≤ r ∧ r < hI σ (6 + b) 0) ∧ z = -1 ∧ s = uI σ 8 1 (hI σ 8 1 + 1)) ∨ ((0 ≤ r ∧ r < hI σ (6 + b) 0) ∧ z = hI σ (19 + 9 * b) r.toNat ∧ s = σ)) := by
  obtain ⟨hg1, hg2, hrf⟩ := id hg
  have hb := hb2
  have hB := hb2
  obtain ⟨d, rfl⟩ : ∃ d, D = d + 1 := ⟨D - 1, by omega⟩
  refine am_enter rfl rfl (Nat.le_of_ble_eq_true rfl) ?_
  refine g_aload_n dX6_name_0 rfl ?_
  refine g_iload_n dX6_name_1 rfl ?_
  refine g_callvI dX6_name_2 tm_6_134 rfl ⟨rfl, rfl⟩ rfl (Nat.le_of_ble_eq_true rfl) (cc6_isRule (by omega) σ hf _ hb2 hn12) (fun z2 s2 h2 => ?_)
  obtain ⟨h2, e2⟩ := h2
  obtain rfl := e2.symm
  refine g_if_ne (tgt := 14) dX6_name_5 (by decide) (fun c5 => ?_) (fun c5 => ?_)
  · refine g_aload_n dX6_name_14 rfl ?_
    refine g_getA dX6_name_15 tf_6_42 rfl rfl (crf hf rfl) ?_
    refine g_getA dX6_name_18 tf_6_137 (lc_b hb) rfl (crb3 hf hB) ?_
    refine g_iload_n dX6_name_21 rfl ?_
    refine g_ialdN (r.toNat) dX6_name_22 (lcb3 hB) (by omega) (by omega) ?_
    refine g_ireturn dX6_name_23 (Or.inl rfl) ⟨_, rfl, ?_⟩
    first
      | exact Or.inl ⟨by omega, rfl, rfl⟩
      | exact Or.inr ⟨by omega, rfl, rfl⟩
  · refine g_aload_n dX6_name_8 rfl ?_
    refine g_iconst dX6_name_9 ⟨by decide, by decide⟩ ?_
    refine g_callvI dX6_name_10 tm_6_55 rfl ⟨rfl, rfl⟩ rfl (Nat.le_of_ble_eq_true rfl) (cc6_refuse (by omega) σ hf _ ⟨by omega, by omega⟩ hrf) (fun z10 s10 h10 => ?_)
    obtain ⟨rfl, rfl⟩ := h10
    refine g_ireturn dX6_name_13 (Or.inl rfl) ⟨_, rfl, ?_⟩
    first
      | exact Or.inl ⟨by omega, rfl, rfl⟩
      | exact Or.inr ⟨by omega, rfl, rfl⟩

def cntC (σ : am_HS) (b : Nat) (q : Int) : Int := if 10 < q ∧ q < 18 then hI σ 8 (q - 10).toNat else if q = 0 then hI σ 0 7 else if q = 1 then hI σ 0 8 else if q = 2 then hI σ (6 + b) 0 else if q = 3 then hI σ 0 9 else if q = 4 then hI σ 4 1 else if q = 5 then hI σ 0 10 else if q = 6 then hI σ 0 11 else if q = 7 then hI σ 0 12 else if q = 8 then (if hI σ (6 + b) 1 = 0 then 0 else 1) else if q = 18 then hI σ 0 13 else -9
theorem cc6_count {D : Nat} (hD : 1 ≤ D) (σ : am_HS) {b : Nat} (hf : σ.2.2 = cH b) (hb2 : b < 2) (q : Int) (hq : rI q) : am_Do lc D mX6_count σ [vR (some 0), vI q] (qI fun z s => z = cntC σ b q ∧ s = σ) := by
  have hb := hb2
  have hB := hb2
  obtain ⟨hq1, hq2⟩ := hq
  obtain ⟨d, rfl⟩ : ∃ d, D = d + 1 := ⟨D - 1, by omega⟩
  refine am_enter rfl rfl (Nat.le_of_ble_eq_true rfl) ?_
  refine g_iload_n dX6_count_0 rfl ?_
  refine g_table dX6_count_1 (fun h => ⟨159, rfl, ?_⟩) (fun h1 h2 => ?_)
  · skip
    refine g_iload_n dX6_count_159 rfl ?_
    refine g_bipush dX6_count_160 (by decide) ?_
    refine g_isubW dX6_count_162 ?_
    have hwk : 10 < q → wI (q - 10) = q - 10 := fun hq => wI_e ⟨by omega, by omega⟩
    refine g_istore_n dX6_count_163 (by decide) rfl ?_
    refine g_iload_n dX6_count_164 rfl ?_
    refine g_bipush dX6_count_165 (by decide) ?_
    refine g_icmp_le (tgt := 188) dX6_count_167 (by decide) (fun c167 => ?_) (fun c167 => ?_)
    · refine g_bipush dX6_count_188 (by decide) ?_
      refine g_ireturn dX6_count_190 (Or.inl rfl) ⟨_, rfl, ?_⟩
      refine ⟨?_, rfl⟩
      unfold cntC
      first
        | (rw [if_pos ⟨by omega, by omega⟩]; done)
        | (rw [if_neg (by omega), if_neg (by omega), if_neg (by omega), if_neg (by omega), if_neg (by omega), if_neg (by omega), if_neg (by omega), if_neg (by omega), if_neg (by omega), if_neg (by omega), if_neg (by omega)]; done)
    · refine g_iload_n dX6_count_170 rfl ?_
      refine g_aload_n dX6_count_171 rfl ?_
      refine g_getA dX6_count_172 tf_6_46 rfl rfl (crf hf rfl) ?_
      refine g_alen dX6_count_175 rfl (by decide) ?_
      refine g_icmp_ge (tgt := 188) dX6_count_176 (by decide) (fun c176 => ?_) (fun c176 => ?_)
      · refine g_bipush dX6_count_188 (by decide) ?_
        refine g_ireturn dX6_count_190 (Or.inl rfl) ⟨_, rfl, ?_⟩
        refine ⟨?_, rfl⟩
        unfold cntC
        first
          | (rw [if_pos ⟨by omega, by omega⟩]; done)
          | (rw [if_neg (by omega), if_neg (by omega), if_neg (by omega), if_neg (by omega), if_neg (by omega), if_neg (by omega), if_neg (by omega), if_neg (by omega), if_neg (by omega), if_neg (by omega), if_neg (by omega)]; done)
      · refine g_aload_n dX6_count_179 rfl ?_
        refine g_getA dX6_count_180 tf_6_46 rfl rfl (crf hf rfl) ?_
        refine g_iload_n dX6_count_183 rfl ?_
        refine g_ialdN ((q - 10).toNat) dX6_count_184 rfl (by omega) (by omega) ?_
        refine g_goto (tgt := 190) dX6_count_185 (by decide) ?_
        refine g_ireturn dX6_count_190 (Or.inl rfl) ⟨_, rfl, ?_⟩
        refine ⟨?_, rfl⟩
        unfold cntC
        first
          | (rw [if_pos ⟨by omega, by omega⟩]; done)
          | (rw [if_neg (by omega), if_neg (by omega), if_neg (by omega), if_neg (by omega), if_neg (by omega), if_neg (by omega), if_neg (by omega), if_neg (by omega), if_neg (by omega), if_neg (by omega), if_neg (by omega)]; done)
  rcases (show q = 0 ∨ q = 1 ∨ q = 2 ∨ q = 3 ∨ q = 4 ∨ q = 5 ∨ q = 6 ∨ q = 7 ∨ q = 8 ∨ q = 9 ∨ q = 10 ∨ q = 11 ∨ q = 12 ∨ q = 13 ∨ q = 14 ∨ q = 15 ∨ q = 16 ∨ q = 17 ∨ q = 18 by omega) with ho | ho | ho | ho | ho | ho | ho | ho | ho | ho | ho | ho | ho | ho | ho | ho | ho | ho | ho
  · refine ⟨91, 92, by rw [ho]; rfl, by decide, ?_⟩
    refine g_aload_n dX6_count_92 rfl ?_
    refine g_getI dX6_count_93 tf_6_51 rfl rfl ?_
    refine g_ireturn dX6_count_96 (Or.inl rfl) ⟨_, rfl, ?_⟩
    refine ⟨?_, rfl⟩
    unfold cntC
    rw [if_neg (by omega), if_pos ho]
  · refine ⟨96, 97, by rw [ho]; rfl, by decide, ?_⟩
    refine g_aload_n dX6_count_97 rfl ?_
    refine g_getI dX6_count_98 tf_6_64 rfl rfl ?_
    refine g_ireturn dX6_count_101 (Or.inl rfl) ⟨_, rfl, ?_⟩
    refine ⟨?_, rfl⟩
    unfold cntC
    rw [if_neg (by omega), if_neg (by omega), if_pos ho]
  · refine ⟨101, 102, by rw [ho]; rfl, by decide, ?_⟩
    refine g_aload_n dX6_count_102 rfl ?_
    refine g_getA dX6_count_103 tf_6_42 rfl rfl (crf hf rfl) ?_
    refine g_getI dX6_count_106 tf_6_122 (lc_b hb) rfl ?_
    refine g_ireturn dX6_count_109 (Or.inl rfl) ⟨_, rfl, ?_⟩
    refine ⟨?_, rfl⟩
    unfold cntC
    rw [if_neg (by omega), if_neg (by omega), if_neg (by omega), if_pos ho]
  · refine ⟨109, 110, by rw [ho]; rfl, by decide, ?_⟩
    refine g_aload_n dX6_count_110 rfl ?_
    refine g_getI dX6_count_111 tf_6_94 rfl rfl ?_
    refine g_ireturn dX6_count_114 (Or.inl rfl) ⟨_, rfl, ?_⟩
    refine ⟨?_, rfl⟩
    unfold cntC
    rw [if_neg (by omega), if_neg (by omega), if_neg (by omega), if_neg (by omega), if_pos ho]
  · refine ⟨114, 115, by rw [ho]; rfl, by decide, ?_⟩
    refine g_aload_n dX6_count_115 rfl ?_
    refine g_getA dX6_count_116 tf_6_28 rfl rfl (crf hf rfl) ?_
    refine g_getI dX6_count_119 tf_6_97 rfl rfl ?_
    refine g_ireturn dX6_count_122 (Or.inl rfl) ⟨_, rfl, ?_⟩
    refine ⟨?_, rfl⟩
    unfold cntC
    rw [if_neg (by omega), if_neg (by omega), if_neg (by omega), if_neg (by omega), if_neg (by omega), if_pos ho]
  · refine ⟨122, 123, by rw [ho]; rfl, by decide, ?_⟩
    refine g_aload_n dX6_count_123 rfl ?_
    refine g_getI dX6_count_124 tf_6_167 rfl rfl ?_
    refine g_ireturn dX6_count_127 (Or.inl rfl) ⟨_, rfl, ?_⟩
    refine ⟨?_, rfl⟩
    unfold cntC
    rw [if_neg (by omega), if_neg (by omega), if_neg (by omega), if_neg (by omega), if_neg (by omega), if_neg (by omega), if_pos ho]
  · refine ⟨127, 128, by rw [ho]; rfl, by decide, ?_⟩
    refine g_aload_n dX6_count_128 rfl ?_
    refine g_getI dX6_count_129 tf_6_183 rfl rfl ?_
    refine g_ireturn dX6_count_132 (Or.inl rfl) ⟨_, rfl, ?_⟩
    refine ⟨?_, rfl⟩
    unfold cntC
    rw [if_neg (by omega), if_neg (by omega), if_neg (by omega), if_neg (by omega), if_neg (by omega), if_neg (by omega), if_neg (by omega), if_pos ho]
  · refine ⟨132, 133, by rw [ho]; rfl, by decide, ?_⟩
    refine g_aload_n dX6_count_133 rfl ?_
    refine g_getI dX6_count_134 tf_6_206 rfl rfl ?_
    refine g_ireturn dX6_count_137 (Or.inl rfl) ⟨_, rfl, ?_⟩
    refine ⟨?_, rfl⟩
    unfold cntC
    rw [if_neg (by omega), if_neg (by omega), if_neg (by omega), if_neg (by omega), if_neg (by omega), if_neg (by omega), if_neg (by omega), if_neg (by omega), if_pos ho]
  · refine ⟨137, 138, by rw [ho]; rfl, by decide, ?_⟩
    refine g_aload_n dX6_count_138 rfl ?_
    refine g_getA dX6_count_139 tf_6_42 rfl rfl (crf hf rfl) ?_
    refine g_getZ dX6_count_142 tf_6_257 (lc_b hb) rfl ?_
    refine g_if_eq (tgt := 152) dX6_count_145 (by decide) (fun c145 => ?_) (fun c145 => ?_)
    · refine g_iconst dX6_count_152 ⟨by decide, by decide⟩ ?_
      refine g_ireturn dX6_count_153 (Or.inl rfl) ⟨_, rfl, ?_⟩
      refine ⟨?_, rfl⟩
      unfold cntC
      rw [if_neg (by omega), if_neg (by omega), if_neg (by omega), if_neg (by omega), if_neg (by omega), if_neg (by omega), if_neg (by omega), if_neg (by omega), if_neg (by omega), if_pos ho]
      first
        | (rw [if_pos (by omega)]; done)
        | (rw [if_neg (by omega)]; done)
    · refine g_iconst dX6_count_148 ⟨by decide, by decide⟩ ?_
      refine g_goto (tgt := 153) dX6_count_149 (by decide) ?_
      refine g_ireturn dX6_count_153 (Or.inl rfl) ⟨_, rfl, ?_⟩
      refine ⟨?_, rfl⟩
      unfold cntC
      rw [if_neg (by omega), if_neg (by omega), if_neg (by omega), if_neg (by omega), if_neg (by omega), if_neg (by omega), if_neg (by omega), if_neg (by omega), if_neg (by omega), if_pos ho]
      first
        | (rw [if_pos (by omega)]; done)
        | (rw [if_neg (by omega)]; done)
  · refine ⟨158, 159, by rw [ho]; rfl, by decide, ?_⟩
    refine g_iload_n dX6_count_159 rfl ?_
    refine g_bipush dX6_count_160 (by decide) ?_
    refine g_isubW dX6_count_162 ?_
    have hwk : 10 < q → wI (q - 10) = q - 10 := fun hq => wI_e ⟨by omega, by omega⟩
    refine g_istore_n dX6_count_163 (by decide) rfl ?_
    refine g_iload_n dX6_count_164 rfl ?_
    refine g_bipush dX6_count_165 (by decide) ?_
    refine g_icmp_le (tgt := 188) dX6_count_167 (by decide) (fun c167 => ?_) (fun c167 => ?_)
    · refine g_bipush dX6_count_188 (by decide) ?_
      refine g_ireturn dX6_count_190 (Or.inl rfl) ⟨_, rfl, ?_⟩
      refine ⟨?_, rfl⟩
      unfold cntC
      first
        | (rw [if_pos ⟨by omega, by omega⟩]; done)
        | (rw [if_neg (by omega), if_neg (by omega), if_neg (by omega), if_neg (by omega), if_neg (by omega), if_neg (by omega), if_neg (by omega), if_neg (by omega), if_neg (by omega), if_neg (by omega), if_neg (by omega)]; done)
    · refine g_iload_n dX6_count_170 rfl ?_
      refine g_aload_n dX6_count_171 rfl ?_
      refine g_getA dX6_count_172 tf_6_46 rfl rfl (crf hf rfl) ?_
      refine g_alen dX6_count_175 rfl (by decide) ?_
      refine g_icmp_ge (tgt := 188) dX6_count_176 (by decide) (fun c176 => ?_) (fun c176 => ?_)
      · refine g_bipush dX6_count_188 (by decide) ?_
        refine g_ireturn dX6_count_190 (Or.inl rfl) ⟨_, rfl, ?_⟩
        refine ⟨?_, rfl⟩
        unfold cntC
        first
          | (rw [if_pos ⟨by omega, by omega⟩]; done)
          | (rw [if_neg (by omega), if_neg (by omega), if_neg (by omega), if_neg (by omega), if_neg (by omega), if_neg (by omega), if_neg (by omega), if_neg (by omega), if_neg (by omega), if_neg (by omega), if_neg (by omega)]; done)
      · refine g_aload_n dX6_count_179 rfl ?_
        refine g_getA dX6_count_180 tf_6_46 rfl rfl (crf hf rfl) ?_
        refine g_iload_n dX6_count_183 rfl ?_
        refine g_ialdN ((q - 10).toNat) dX6_count_184 rfl (by omega) (by omega) ?_
        refine g_goto (tgt := 190) dX6_count_185 (by decide) ?_
        refine g_ireturn dX6_count_190 (Or.inl rfl) ⟨_, rfl, ?_⟩
        refine ⟨?_, rfl⟩
        unfold cntC
        first
          | (rw [if_pos ⟨by omega, by omega⟩]; done)
          | (rw [if_neg (by omega), if_neg (by omega), if_neg (by omega), if_neg (by omega), if_neg (by omega), if_neg (by omega), if_neg (by omega), if_neg (by omega), if_neg (by omega), if_neg (by omega), if_neg (by omega)]; done)
  · refine ⟨158, 159, by rw [ho]; rfl, by decide, ?_⟩
    refine g_iload_n dX6_count_159 rfl ?_
    refine g_bipush dX6_count_160 (by decide) ?_
    refine g_isubW dX6_count_162 ?_
    have hwk : 10 < q → wI (q - 10) = q - 10 := fun hq => wI_e ⟨by omega, by omega⟩
    refine g_istore_n dX6_count_163 (by decide) rfl ?_
    refine g_iload_n dX6_count_164 rfl ?_
    refine g_bipush dX6_count_165 (by decide) ?_
    refine g_icmp_le (tgt := 188) dX6_count_167 (by decide) (fun c167 => ?_) (fun c167 => ?_)
    · refine g_bipush dX6_count_188 (by decide) ?_
      refine g_ireturn dX6_count_190 (Or.inl rfl) ⟨_, rfl, ?_⟩
      refine ⟨?_, rfl⟩
      unfold cntC
      first
        | (rw [if_pos ⟨by omega, by omega⟩]; done)
        | (rw [if_neg (by omega), if_neg (by omega), if_neg (by omega), if_neg (by omega), if_neg (by omega), if_neg (by omega), if_neg (by omega), if_neg (by omega), if_neg (by omega), if_neg (by omega), if_neg (by omega)]; done)
    · refine g_iload_n dX6_count_170 rfl ?_
      refine g_aload_n dX6_count_171 rfl ?_
      refine g_getA dX6_count_172 tf_6_46 rfl rfl (crf hf rfl) ?_
      refine g_alen dX6_count_175 rfl (by decide) ?_
      refine g_icmp_ge (tgt := 188) dX6_count_176 (by decide) (fun c176 => ?_) (fun c176 => ?_)
      · refine g_bipush dX6_count_188 (by decide) ?_
        refine g_ireturn dX6_count_190 (Or.inl rfl) ⟨_, rfl, ?_⟩
        refine ⟨?_, rfl⟩
        unfold cntC
        first
          | (rw [if_pos ⟨by omega, by omega⟩]; done)
          | (rw [if_neg (by omega), if_neg (by omega), if_neg (by omega), if_neg (by omega), if_neg (by omega), if_neg (by omega), if_neg (by omega), if_neg (by omega), if_neg (by omega), if_neg (by omega), if_neg (by omega)]; done)
      · refine g_aload_n dX6_count_179 rfl ?_
        refine g_getA dX6_count_180 tf_6_46 rfl rfl (crf hf rfl) ?_
        refine g_iload_n dX6_count_183 rfl ?_
        refine g_ialdN ((q - 10).toNat) dX6_count_184 rfl (by omega) (by omega) ?_
        refine g_goto (tgt := 190) dX6_count_185 (by decide) ?_
        refine g_ireturn dX6_count_190 (Or.inl rfl) ⟨_, rfl, ?_⟩
        refine ⟨?_, rfl⟩
        unfold cntC
        first
          | (rw [if_pos ⟨by omega, by omega⟩]; done)
          | (rw [if_neg (by omega), if_neg (by omega), if_neg (by omega), if_neg (by omega), if_neg (by omega), if_neg (by omega), if_neg (by omega), if_neg (by omega), if_neg (by omega), if_neg (by omega), if_neg (by omega)]; done)
  · refine ⟨158, 159, by rw [ho]; rfl, by decide, ?_⟩
    refine g_iload_n dX6_count_159 rfl ?_
    refine g_bipush dX6_count_160 (by decide) ?_
    refine g_isubW dX6_count_162 ?_
    have hwk : 10 < q → wI (q - 10) = q - 10 := fun hq => wI_e ⟨by omega, by omega⟩
    refine g_istore_n dX6_count_163 (by decide) rfl ?_
    refine g_iload_n dX6_count_164 rfl ?_
    refine g_bipush dX6_count_165 (by decide) ?_
    refine g_icmp_le (tgt := 188) dX6_count_167 (by decide) (fun c167 => ?_) (fun c167 => ?_)
    · refine g_bipush dX6_count_188 (by decide) ?_
      refine g_ireturn dX6_count_190 (Or.inl rfl) ⟨_, rfl, ?_⟩
      refine ⟨?_, rfl⟩
      unfold cntC
      first
        | (rw [if_pos ⟨by omega, by omega⟩]; done)
        | (rw [if_neg (by omega), if_neg (by omega), if_neg (by omega), if_neg (by omega), if_neg (by omega), if_neg (by omega), if_neg (by omega), if_neg (by omega), if_neg (by omega), if_neg (by omega), if_neg (by omega)]; done)
    · refine g_iload_n dX6_count_170 rfl ?_
      refine g_aload_n dX6_count_171 rfl ?_
      refine g_getA dX6_count_172 tf_6_46 rfl rfl (crf hf rfl) ?_
      refine g_alen dX6_count_175 rfl (by decide) ?_
      refine g_icmp_ge (tgt := 188) dX6_count_176 (by decide) (fun c176 => ?_) (fun c176 => ?_)
      · refine g_bipush dX6_count_188 (by decide) ?_
        refine g_ireturn dX6_count_190 (Or.inl rfl) ⟨_, rfl, ?_⟩
        refine ⟨?_, rfl⟩
        unfold cntC
        first
          | (rw [if_pos ⟨by omega, by omega⟩]; done)
          | (rw [if_neg (by omega), if_neg (by omega), if_neg (by omega), if_neg (by omega), if_neg (by omega), if_neg (by omega), if_neg (by omega), if_neg (by omega), if_neg (by omega), if_neg (by omega), if_neg (by omega)]; done)
      · refine g_aload_n dX6_count_179 rfl ?_
        refine g_getA dX6_count_180 tf_6_46 rfl rfl (crf hf rfl) ?_
        refine g_iload_n dX6_count_183 rfl ?_
        refine g_ialdN ((q - 10).toNat) dX6_count_184 rfl (by omega) (by omega) ?_
        refine g_goto (tgt := 190) dX6_count_185 (by decide) ?_
        refine g_ireturn dX6_count_190 (Or.inl rfl) ⟨_, rfl, ?_⟩
        refine ⟨?_, rfl⟩
        unfold cntC
        first
          | (rw [if_pos ⟨by omega, by omega⟩]; done)
          | (rw [if_neg (by omega), if_neg (by omega), if_neg (by omega), if_neg (by omega), if_neg (by omega), if_neg (by omega), if_neg (by omega), if_neg (by omega), if_neg (by omega), if_neg (by omega), if_neg (by omega)]; done)
  · refine ⟨158, 159, by rw [ho]; rfl, by decide, ?_⟩
    refine g_iload_n dX6_count_159 rfl ?_
    refine g_bipush dX6_count_160 (by decide) ?_
    refine g_isubW dX6_count_162 ?_
    have hwk : 10 < q → wI (q - 10) = q - 10 := fun hq => wI_e ⟨by omega, by omega⟩
    refine g_istore_n dX6_count_163 (by decide) rfl ?_
    refine g_iload_n dX6_count_164 rfl ?_
    refine g_bipush dX6_count_165 (by decide) ?_
    refine g_icmp_le (tgt := 188) dX6_count_167 (by decide) (fun c167 => ?_) (fun c167 => ?_)
    · refine g_bipush dX6_count_188 (by decide) ?_
      refine g_ireturn dX6_count_190 (Or.inl rfl) ⟨_, rfl, ?_⟩
      refine ⟨?_, rfl⟩
      unfold cntC
      first
        | (rw [if_pos ⟨by omega, by omega⟩]; done)
        | (rw [if_neg (by omega), if_neg (by omega), if_neg (by omega), if_neg (by omega), if_neg (by omega), if_neg (by omega), if_neg (by omega), if_neg (by omega), if_neg (by omega), if_neg (by omega), if_neg (by omega)]; done)
    · refine g_iload_n dX6_count_170 rfl ?_
      refine g_aload_n dX6_count_171 rfl ?_
      refine g_getA dX6_count_172 tf_6_46 rfl rfl (crf hf rfl) ?_
      refine g_alen dX6_count_175 rfl (by decide) ?_
      refine g_icmp_ge (tgt := 188) dX6_count_176 (by decide) (fun c176 => ?_) (fun c176 => ?_)
      · refine g_bipush dX6_count_188 (by decide) ?_
        refine g_ireturn dX6_count_190 (Or.inl rfl) ⟨_, rfl, ?_⟩
        refine ⟨?_, rfl⟩
        unfold cntC
        first
          | (rw [if_pos ⟨by omega, by omega⟩]; done)
          | (rw [if_neg (by omega), if_neg (by omega), if_neg (by omega), if_neg (by omega), if_neg (by omega), if_neg (by omega), if_neg (by omega), if_neg (by omega), if_neg (by omega), if_neg (by omega), if_neg (by omega)]; done)
      · refine g_aload_n dX6_count_179 rfl ?_
        refine g_getA dX6_count_180 tf_6_46 rfl rfl (crf hf rfl) ?_
        refine g_iload_n dX6_count_183 rfl ?_
        refine g_ialdN ((q - 10).toNat) dX6_count_184 rfl (by omega) (by omega) ?_
        refine g_goto (tgt := 190) dX6_count_185 (by decide) ?_
        refine g_ireturn dX6_count_190 (Or.inl rfl) ⟨_, rfl, ?_⟩
        refine ⟨?_, rfl⟩
        unfold cntC
        first
          | (rw [if_pos ⟨by omega, by omega⟩]; done)
          | (rw [if_neg (by omega), if_neg (by omega), if_neg (by omega), if_neg (by omega), if_neg (by omega), if_neg (by omega), if_neg (by omega), if_neg (by omega), if_neg (by omega), if_neg (by omega), if_neg (by omega)]; done)
  · refine ⟨158, 159, by rw [ho]; rfl, by decide, ?_⟩
    refine g_iload_n dX6_count_159 rfl ?_
    refine g_bipush dX6_count_160 (by decide) ?_
    refine g_isubW dX6_count_162 ?_
    have hwk : 10 < q → wI (q - 10) = q - 10 := fun hq => wI_e ⟨by omega, by omega⟩
    refine g_istore_n dX6_count_163 (by decide) rfl ?_
    refine g_iload_n dX6_count_164 rfl ?_
    refine g_bipush dX6_count_165 (by decide) ?_
    refine g_icmp_le (tgt := 188) dX6_count_167 (by decide) (fun c167 => ?_) (fun c167 => ?_)
    · refine g_bipush dX6_count_188 (by decide) ?_
      refine g_ireturn dX6_count_190 (Or.inl rfl) ⟨_, rfl, ?_⟩
      refine ⟨?_, rfl⟩
      unfold cntC
      first
        | (rw [if_pos ⟨by omega, by omega⟩]; done)
        | (rw [if_neg (by omega), if_neg (by omega), if_neg (by omega), if_neg (by omega), if_neg (by omega), if_neg (by omega), if_neg (by omega), if_neg (by omega), if_neg (by omega), if_neg (by omega), if_neg (by omega)]; done)
    · refine g_iload_n dX6_count_170 rfl ?_
      refine g_aload_n dX6_count_171 rfl ?_
      refine g_getA dX6_count_172 tf_6_46 rfl rfl (crf hf rfl) ?_
      refine g_alen dX6_count_175 rfl (by decide) ?_
      refine g_icmp_ge (tgt := 188) dX6_count_176 (by decide) (fun c176 => ?_) (fun c176 => ?_)
      · refine g_bipush dX6_count_188 (by decide) ?_
        refine g_ireturn dX6_count_190 (Or.inl rfl) ⟨_, rfl, ?_⟩
        refine ⟨?_, rfl⟩
        unfold cntC
        first
          | (rw [if_pos ⟨by omega, by omega⟩]; done)
          | (rw [if_neg (by omega), if_neg (by omega), if_neg (by omega), if_neg (by omega), if_neg (by omega), if_neg (by omega), if_neg (by omega), if_neg (by omega), if_neg (by omega), if_neg (by omega), if_neg (by omega)]; done)
      · refine g_aload_n dX6_count_179 rfl ?_
        refine g_getA dX6_count_180 tf_6_46 rfl rfl (crf hf rfl) ?_
        refine g_iload_n dX6_count_183 rfl ?_
        refine g_ialdN ((q - 10).toNat) dX6_count_184 rfl (by omega) (by omega) ?_
        refine g_goto (tgt := 190) dX6_count_185 (by decide) ?_
        refine g_ireturn dX6_count_190 (Or.inl rfl) ⟨_, rfl, ?_⟩
        refine ⟨?_, rfl⟩
        unfold cntC
        first
          | (rw [if_pos ⟨by omega, by omega⟩]; done)
          | (rw [if_neg (by omega), if_neg (by omega), if_neg (by omega), if_neg (by omega), if_neg (by omega), if_neg (by omega), if_neg (by omega), if_neg (by omega), if_neg (by omega), if_neg (by omega), if_neg (by omega)]; done)
  · refine ⟨158, 159, by rw [ho]; rfl, by decide, ?_⟩
    refine g_iload_n dX6_count_159 rfl ?_
    refine g_bipush dX6_count_160 (by decide) ?_
    refine g_isubW dX6_count_162 ?_
    have hwk : 10 < q → wI (q - 10) = q - 10 := fun hq => wI_e ⟨by omega, by omega⟩
    refine g_istore_n dX6_count_163 (by decide) rfl ?_
    refine g_iload_n dX6_count_164 rfl ?_
    refine g_bipush dX6_count_165 (by decide) ?_
    refine g_icmp_le (tgt := 188) dX6_count_167 (by decide) (fun c167 => ?_) (fun c167 => ?_)
    · refine g_bipush dX6_count_188 (by decide) ?_
      refine g_ireturn dX6_count_190 (Or.inl rfl) ⟨_, rfl, ?_⟩
      refine ⟨?_, rfl⟩
      unfold cntC
      first
        | (rw [if_pos ⟨by omega, by omega⟩]; done)
        | (rw [if_neg (by omega), if_neg (by omega), if_neg (by omega), if_neg (by omega), if_neg (by omega), if_neg (by omega), if_neg (by omega), if_neg (by omega), if_neg (by omega), if_neg (by omega), if_neg (by omega)]; done)
    · refine g_iload_n dX6_count_170 rfl ?_
      refine g_aload_n dX6_count_171 rfl ?_
      refine g_getA dX6_count_172 tf_6_46 rfl rfl (crf hf rfl) ?_
      refine g_alen dX6_count_175 rfl (by decide) ?_
      refine g_icmp_ge (tgt := 188) dX6_count_176 (by decide) (fun c176 => ?_) (fun c176 => ?_)
      · refine g_bipush dX6_count_188 (by decide) ?_
        refine g_ireturn dX6_count_190 (Or.inl rfl) ⟨_, rfl, ?_⟩
        refine ⟨?_, rfl⟩
        unfold cntC
        first
          | (rw [if_pos ⟨by omega, by omega⟩]; done)
          | (rw [if_neg (by omega), if_neg (by omega), if_neg (by omega), if_neg (by omega), if_neg (by omega), if_neg (by omega), if_neg (by omega), if_neg (by omega), if_neg (by omega), if_neg (by omega), if_neg (by omega)]; done)
      · refine g_aload_n dX6_count_179 rfl ?_
        refine g_getA dX6_count_180 tf_6_46 rfl rfl (crf hf rfl) ?_
        refine g_iload_n dX6_count_183 rfl ?_
        refine g_ialdN ((q - 10).toNat) dX6_count_184 rfl (by omega) (by omega) ?_
        refine g_goto (tgt := 190) dX6_count_185 (by decide) ?_
        refine g_ireturn dX6_count_190 (Or.inl rfl) ⟨_, rfl, ?_⟩
        refine ⟨?_, rfl⟩
        unfold cntC
        first
          | (rw [if_pos ⟨by omega, by omega⟩]; done)
          | (rw [if_neg (by omega), if_neg (by omega), if_neg (by omega), if_neg (by omega), if_neg (by omega), if_neg (by omega), if_neg (by omega), if_neg (by omega), if_neg (by omega), if_neg (by omega), if_neg (by omega)]; done)
  · refine ⟨158, 159, by rw [ho]; rfl, by decide, ?_⟩
    refine g_iload_n dX6_count_159 rfl ?_
    refine g_bipush dX6_count_160 (by decide) ?_
    refine g_isubW dX6_count_162 ?_
    have hwk : 10 < q → wI (q - 10) = q - 10 := fun hq => wI_e ⟨by omega, by omega⟩
    refine g_istore_n dX6_count_163 (by decide) rfl ?_
    refine g_iload_n dX6_count_164 rfl ?_
    refine g_bipush dX6_count_165 (by decide) ?_
    refine g_icmp_le (tgt := 188) dX6_count_167 (by decide) (fun c167 => ?_) (fun c167 => ?_)
    · refine g_bipush dX6_count_188 (by decide) ?_
      refine g_ireturn dX6_count_190 (Or.inl rfl) ⟨_, rfl, ?_⟩
      refine ⟨?_, rfl⟩
      unfold cntC
      first
        | (rw [if_pos ⟨by omega, by omega⟩]; done)
        | (rw [if_neg (by omega), if_neg (by omega), if_neg (by omega), if_neg (by omega), if_neg (by omega), if_neg (by omega), if_neg (by omega), if_neg (by omega), if_neg (by omega), if_neg (by omega), if_neg (by omega)]; done)
    · refine g_iload_n dX6_count_170 rfl ?_
      refine g_aload_n dX6_count_171 rfl ?_
      refine g_getA dX6_count_172 tf_6_46 rfl rfl (crf hf rfl) ?_
      refine g_alen dX6_count_175 rfl (by decide) ?_
      refine g_icmp_ge (tgt := 188) dX6_count_176 (by decide) (fun c176 => ?_) (fun c176 => ?_)
      · refine g_bipush dX6_count_188 (by decide) ?_
        refine g_ireturn dX6_count_190 (Or.inl rfl) ⟨_, rfl, ?_⟩
        refine ⟨?_, rfl⟩
        unfold cntC
        first
          | (rw [if_pos ⟨by omega, by omega⟩]; done)
          | (rw [if_neg (by omega), if_neg (by omega), if_neg (by omega), if_neg (by omega), if_neg (by omega), if_neg (by omega), if_neg (by omega), if_neg (by omega), if_neg (by omega), if_neg (by omega), if_neg (by omega)]; done)
      · refine g_aload_n dX6_count_179 rfl ?_
        refine g_getA dX6_count_180 tf_6_46 rfl rfl (crf hf rfl) ?_
        refine g_iload_n dX6_count_183 rfl ?_
        refine g_ialdN ((q - 10).toNat) dX6_count_184 rfl (by omega) (by omega) ?_
        refine g_goto (tgt := 190) dX6_count_185 (by decide) ?_
        refine g_ireturn dX6_count_190 (Or.inl rfl) ⟨_, rfl, ?_⟩
        refine ⟨?_, rfl⟩
        unfold cntC
        first
          | (rw [if_pos ⟨by omega, by omega⟩]; done)
          | (rw [if_neg (by omega), if_neg (by omega), if_neg (by omega), if_neg (by omega), if_neg (by omega), if_neg (by omega), if_neg (by omega), if_neg (by omega), if_neg (by omega), if_neg (by omega), if_neg (by omega)]; done)
  · refine ⟨158, 159, by rw [ho]; rfl, by decide, ?_⟩
    refine g_iload_n dX6_count_159 rfl ?_
    refine g_bipush dX6_count_160 (by decide) ?_
    refine g_isubW dX6_count_162 ?_
    have hwk : 10 < q → wI (q - 10) = q - 10 := fun hq => wI_e ⟨by omega, by omega⟩
    refine g_istore_n dX6_count_163 (by decide) rfl ?_
    refine g_iload_n dX6_count_164 rfl ?_
    refine g_bipush dX6_count_165 (by decide) ?_
    refine g_icmp_le (tgt := 188) dX6_count_167 (by decide) (fun c167 => ?_) (fun c167 => ?_)
    · refine g_bipush dX6_count_188 (by decide) ?_
      refine g_ireturn dX6_count_190 (Or.inl rfl) ⟨_, rfl, ?_⟩
      refine ⟨?_, rfl⟩
      unfold cntC
      first
        | (rw [if_pos ⟨by omega, by omega⟩]; done)
        | (rw [if_neg (by omega), if_neg (by omega), if_neg (by omega), if_neg (by omega), if_neg (by omega), if_neg (by omega), if_neg (by omega), if_neg (by omega), if_neg (by omega), if_neg (by omega), if_neg (by omega)]; done)
    · refine g_iload_n dX6_count_170 rfl ?_
      refine g_aload_n dX6_count_171 rfl ?_
      refine g_getA dX6_count_172 tf_6_46 rfl rfl (crf hf rfl) ?_
      refine g_alen dX6_count_175 rfl (by decide) ?_
      refine g_icmp_ge (tgt := 188) dX6_count_176 (by decide) (fun c176 => ?_) (fun c176 => ?_)
      · refine g_bipush dX6_count_188 (by decide) ?_
        refine g_ireturn dX6_count_190 (Or.inl rfl) ⟨_, rfl, ?_⟩
        refine ⟨?_, rfl⟩
        unfold cntC
        first
          | (rw [if_pos ⟨by omega, by omega⟩]; done)
          | (rw [if_neg (by omega), if_neg (by omega), if_neg (by omega), if_neg (by omega), if_neg (by omega), if_neg (by omega), if_neg (by omega), if_neg (by omega), if_neg (by omega), if_neg (by omega), if_neg (by omega)]; done)
      · refine g_aload_n dX6_count_179 rfl ?_
        refine g_getA dX6_count_180 tf_6_46 rfl rfl (crf hf rfl) ?_
        refine g_iload_n dX6_count_183 rfl ?_
        refine g_ialdN ((q - 10).toNat) dX6_count_184 rfl (by omega) (by omega) ?_
        refine g_goto (tgt := 190) dX6_count_185 (by decide) ?_
        refine g_ireturn dX6_count_190 (Or.inl rfl) ⟨_, rfl, ?_⟩
        refine ⟨?_, rfl⟩
        unfold cntC
        first
          | (rw [if_pos ⟨by omega, by omega⟩]; done)
          | (rw [if_neg (by omega), if_neg (by omega), if_neg (by omega), if_neg (by omega), if_neg (by omega), if_neg (by omega), if_neg (by omega), if_neg (by omega), if_neg (by omega), if_neg (by omega), if_neg (by omega)]; done)
  · refine ⟨158, 159, by rw [ho]; rfl, by decide, ?_⟩
    refine g_iload_n dX6_count_159 rfl ?_
    refine g_bipush dX6_count_160 (by decide) ?_
    refine g_isubW dX6_count_162 ?_
    have hwk : 10 < q → wI (q - 10) = q - 10 := fun hq => wI_e ⟨by omega, by omega⟩
    refine g_istore_n dX6_count_163 (by decide) rfl ?_
    refine g_iload_n dX6_count_164 rfl ?_
    refine g_bipush dX6_count_165 (by decide) ?_
    refine g_icmp_le (tgt := 188) dX6_count_167 (by decide) (fun c167 => ?_) (fun c167 => ?_)
    · refine g_bipush dX6_count_188 (by decide) ?_
      refine g_ireturn dX6_count_190 (Or.inl rfl) ⟨_, rfl, ?_⟩
      refine ⟨?_, rfl⟩
      unfold cntC
      first
        | (rw [if_pos ⟨by omega, by omega⟩]; done)
        | (rw [if_neg (by omega), if_neg (by omega), if_neg (by omega), if_neg (by omega), if_neg (by omega), if_neg (by omega), if_neg (by omega), if_neg (by omega), if_neg (by omega), if_neg (by omega), if_neg (by omega)]; done)
    · refine g_iload_n dX6_count_170 rfl ?_
      refine g_aload_n dX6_count_171 rfl ?_
      refine g_getA dX6_count_172 tf_6_46 rfl rfl (crf hf rfl) ?_
      refine g_alen dX6_count_175 rfl (by decide) ?_
      refine g_icmp_ge (tgt := 188) dX6_count_176 (by decide) (fun c176 => ?_) (fun c176 => ?_)
      · refine g_bipush dX6_count_188 (by decide) ?_
        refine g_ireturn dX6_count_190 (Or.inl rfl) ⟨_, rfl, ?_⟩
        refine ⟨?_, rfl⟩
        unfold cntC
        first
          | (rw [if_pos ⟨by omega, by omega⟩]; done)
          | (rw [if_neg (by omega), if_neg (by omega), if_neg (by omega), if_neg (by omega), if_neg (by omega), if_neg (by omega), if_neg (by omega), if_neg (by omega), if_neg (by omega), if_neg (by omega), if_neg (by omega)]; done)
      · refine g_aload_n dX6_count_179 rfl ?_
        refine g_getA dX6_count_180 tf_6_46 rfl rfl (crf hf rfl) ?_
        refine g_iload_n dX6_count_183 rfl ?_
        refine g_ialdN ((q - 10).toNat) dX6_count_184 rfl (by omega) (by omega) ?_
        refine g_goto (tgt := 190) dX6_count_185 (by decide) ?_
        refine g_ireturn dX6_count_190 (Or.inl rfl) ⟨_, rfl, ?_⟩
        refine ⟨?_, rfl⟩
        unfold cntC
        first
          | (rw [if_pos ⟨by omega, by omega⟩]; done)
          | (rw [if_neg (by omega), if_neg (by omega), if_neg (by omega), if_neg (by omega), if_neg (by omega), if_neg (by omega), if_neg (by omega), if_neg (by omega), if_neg (by omega), if_neg (by omega), if_neg (by omega)]; done)
  · refine ⟨153, 154, by rw [ho]; rfl, by decide, ?_⟩
    refine g_aload_n dX6_count_154 rfl ?_
    refine g_getI dX6_count_155 tf_6_277 rfl rfl ?_
    refine g_ireturn dX6_count_158 (Or.inl rfl) ⟨_, rfl, ?_⟩
    refine ⟨?_, rfl⟩
    unfold cntC
    rw [if_neg (by omega), if_neg (by omega), if_neg (by omega), if_neg (by omega), if_neg (by omega), if_neg (by omega), if_neg (by omega), if_neg (by omega), if_neg (by omega), if_neg (by omega), if_pos ho]

