/-! THE CLASS: a book's names -/
theorem cc0_find {D : Nat} (hD : 1 ≤ D) (σ : am_HS) {b : Nat} (hf : σ.2.2 = cH b) {B : Nat} (hB : B < 2) (N : Nat) (hN : hI σ (6 + B) 0 = (N : Int)) (hN12 : N ≤ 12) (v : Int) : am_Do lc D mX0_find σ [vR (some (6 + B)), vI v] (qI fun z s => z = fdS (fun k => hI σ (19 + 9 * B) k) N v ∧ s = σ) := by
  obtain ⟨d, rfl⟩ : ∃ d, D = d + 1 := ⟨D - 1, by omega⟩
  refine am_enter rfl rfl (Nat.le_of_ble_eq_true rfl) ?_
  have lp : ∀ (m r : Nat), r + m = N → am_Go lc d 0 3 1 cX0_find 2 [some (vR (some (6 + B))), some (vI v), some (vI (r : Int))] [] σ (qI fun z s => z = fdF (fun k => hI σ (19 + 9 * B) k) v m r ∧ s = σ) := by
    intro m
    induction m with
    | zero =>
      intro r hr
      refine g_iload_n dX0_find_2 rfl ?_
      refine g_aload_n dX0_find_3 rfl ?_
      refine g_getI dX0_find_4 tf_0_39 (lc_b hB) rfl ?_
      refine g_icmp_ge (tgt := 37) dX0_find_7 (by decide) (fun c7 => ?_) (fun c7 => ?_)
      · refine g_iconst dX0_find_37 ⟨by decide, by decide⟩ ?_
        refine g_ireturn dX0_find_38 (Or.inl rfl) ⟨_, rfl, ?_⟩
        exact ⟨rfl, rfl⟩
      · exfalso; omega
    | succ m ih =>
      intro r hr
      refine g_iload_n dX0_find_2 rfl ?_
      refine g_aload_n dX0_find_3 rfl ?_
      refine g_getI dX0_find_4 tf_0_39 (lc_b hB) rfl ?_
      refine g_icmp_ge (tgt := 37) dX0_find_7 (by decide) (fun c7 => ?_) (fun c7 => ?_)
      · exfalso; omega
      · refine g_iload_n dX0_find_10 rfl ?_
        refine g_aload_n dX0_find_11 rfl ?_
        refine g_getA dX0_find_12 tf_0_9 (lc_b hB) rfl (crb3 hf hB) ?_
        refine g_alen dX0_find_15 (lcb3 hB) (by decide) ?_
        refine g_icmp_ge (tgt := 37) dX0_find_16 (by decide) (fun c16 => ?_) (fun c16 => ?_)
        · exfalso; omega
        · refine g_aload_n dX0_find_19 rfl ?_
          refine g_getA dX0_find_20 tf_0_9 (lc_b hB) rfl (crb3 hf hB) ?_
          refine g_iload_n dX0_find_23 rfl ?_
          refine g_ialdN (r) dX0_find_24 (lcb3 hB) (by omega) (by omega) ?_
          refine g_iload_n dX0_find_25 rfl ?_
          refine g_icmp_ne (tgt := 31) dX0_find_26 (by decide) (fun c26 => ?_) (fun c26 => ?_)
          · refine g_iinc dX0_find_31 (by decide) rfl ⟨by omega, by omega⟩ (show (r : Int) + 1 = ((r + 1 : Nat) : Int) from by omega) rfl ?_
            refine g_goto (tgt := 2) dX0_find_34 (by decide) ?_
            refine (ih (r + 1) (by omega)).mono ?_
            rintro res u ⟨z, rfl, z1, rfl⟩
            refine ⟨z, rfl, ?_, rfl⟩
            rw [z1]
            exact (if_neg c26).symm
          · refine g_iload_n dX0_find_29 rfl ?_
            refine g_ireturn dX0_find_30 (Or.inl rfl) ⟨_, rfl, ?_⟩
            exact ⟨(if_pos (show hI σ (19 + 9 * B) r = v by omega)).symm, rfl⟩
  refine g_iconst dX0_find_0 ⟨by decide, by decide⟩ ?_
  refine g_istore_n dX0_find_1 (by decide) rfl ?_
  exact lp N 0 (by omega)
theorem cc0_namedBy {D : Nat} (hD : 2 ≤ D) (σ : am_HS) {b : Nat} (hf : σ.2.2 = cH b) {B : Nat} (hB : B < 2) (N : Nat) (hN : hI σ (6 + B) 0 = (N : Int)) (hN12 : N ≤ 12) (r : Nat) : am_Do lc D mX0_namedBy σ [vR (some (6 + B)), vI (r : Int)] (qI fun z s => z = (if r < N then hI σ (22 + 9 * B) r else 0) ∧ s = σ) := by
  obtain ⟨d, rfl⟩ : ∃ d, D = d + 1 := ⟨D - 1, by omega⟩
  refine am_enter rfl rfl (Nat.le_of_ble_eq_true rfl) ?_
  refine g_aload_n dX0_namedBy_0 rfl ?_
  refine g_iload_n dX0_namedBy_1 rfl ?_
  refine g_callvI dX0_namedBy_2 tm_0_50 rfl ⟨rfl, rfl⟩ (lc_b hB) (Nat.le_of_ble_eq_true rfl) (cc0_isPlace (by omega) σ hB _) (fun z2 s2 h2 => ?_)
  obtain ⟨h2, e2⟩ := h2
  obtain rfl := e2.symm
  refine g_if_eq (tgt := 17) dX0_namedBy_5 (by decide) (fun c5 => ?_) (fun c5 => ?_)
  · refine g_iconst dX0_namedBy_17 ⟨by decide, by decide⟩ ?_
    refine g_ireturn dX0_namedBy_18 (Or.inl rfl) ⟨_, rfl, ?_⟩
    first
      | exact ⟨(if_pos (by omega)).symm, rfl⟩
      | exact ⟨(if_neg (by omega)).symm, rfl⟩
  · refine g_aload_n dX0_namedBy_8 rfl ?_
    refine g_getA dX0_namedBy_9 tf_0_21 (lc_b hB) rfl (crb6 hf hB) ?_
    refine g_iload_n dX0_namedBy_12 rfl ?_
    refine g_ialdN (r) dX0_namedBy_13 (lcb6 hB) (by omega) (by omega) ?_
    refine g_goto (tgt := 18) dX0_namedBy_14 (by decide) ?_
    refine g_ireturn dX0_namedBy_18 (Or.inl rfl) ⟨_, rfl, ?_⟩
    first
      | exact ⟨(if_pos (by omega)).symm, rfl⟩
      | exact ⟨(if_neg (by omega)).symm, rfl⟩

theorem cc0_nameOf {D : Nat} (hD : 2 ≤ D) (σ : am_HS) {b : Nat} (hf : σ.2.2 = cH b) {B : Nat} (hB : B < 2) (N : Nat) (hN : hI σ (6 + B) 0 = (N : Int)) (hN12 : N ≤ 12) (r : Nat) : am_Do lc D mX0_nameOf σ [vR (some (6 + B)), vI (r : Int)] (qI fun z s => z = (if r < N then hI σ (19 + 9 * B) r else 0) ∧ s = σ) := by
  obtain ⟨d, rfl⟩ : ∃ d, D = d + 1 := ⟨D - 1, by omega⟩
  refine am_enter rfl rfl (Nat.le_of_ble_eq_true rfl) ?_
  refine g_aload_n dX0_nameOf_0 rfl ?_
  refine g_iload_n dX0_nameOf_1 rfl ?_
  refine g_callvI dX0_nameOf_2 tm_0_50 rfl ⟨rfl, rfl⟩ (lc_b hB) (Nat.le_of_ble_eq_true rfl) (cc0_isPlace (by omega) σ hB _) (fun z2 s2 h2 => ?_)
  obtain ⟨h2, e2⟩ := h2
  obtain rfl := e2.symm
  refine g_if_eq (tgt := 17) dX0_nameOf_5 (by decide) (fun c5 => ?_) (fun c5 => ?_)
  · refine g_iconst dX0_nameOf_17 ⟨by decide, by decide⟩ ?_
    refine g_ireturn dX0_nameOf_18 (Or.inl rfl) ⟨_, rfl, ?_⟩
    first
      | exact ⟨(if_pos (by omega)).symm, rfl⟩
      | exact ⟨(if_neg (by omega)).symm, rfl⟩
  · refine g_aload_n dX0_nameOf_8 rfl ?_
    refine g_getA dX0_nameOf_9 tf_0_9 (lc_b hB) rfl (crb3 hf hB) ?_
    refine g_iload_n dX0_nameOf_12 rfl ?_
    refine g_ialdN (r) dX0_nameOf_13 (lcb3 hB) (by omega) (by omega) ?_
    refine g_goto (tgt := 18) dX0_nameOf_14 (by decide) ?_
    refine g_ireturn dX0_nameOf_18 (Or.inl rfl) ⟨_, rfl, ?_⟩
    first
      | exact ⟨(if_pos (by omega)).symm, rfl⟩
      | exact ⟨(if_neg (by omega)).symm, rfl⟩

theorem cc0_belowOf {D : Nat} (hD : 2 ≤ D) (σ : am_HS) {b : Nat} (hf : σ.2.2 = cH b) {B : Nat} (hB : B < 2) (N : Nat) (hN : hI σ (6 + B) 0 = (N : Int)) (hN12 : N ≤ 12) (r : Nat) : am_Do lc D mX0_belowOf σ [vR (some (6 + B)), vI (r : Int)] (qI fun z s => z = (if r < N then hI σ (23 + 9 * B) r else 0) ∧ s = σ) := by
  obtain ⟨d, rfl⟩ : ∃ d, D = d + 1 := ⟨D - 1, by omega⟩
  refine am_enter rfl rfl (Nat.le_of_ble_eq_true rfl) ?_
  refine g_aload_n dX0_belowOf_0 rfl ?_
  refine g_iload_n dX0_belowOf_1 rfl ?_
  refine g_callvI dX0_belowOf_2 tm_0_50 rfl ⟨rfl, rfl⟩ (lc_b hB) (Nat.le_of_ble_eq_true rfl) (cc0_isPlace (by omega) σ hB _) (fun z2 s2 h2 => ?_)
  obtain ⟨h2, e2⟩ := h2
  obtain rfl := e2.symm
  refine g_if_eq (tgt := 17) dX0_belowOf_5 (by decide) (fun c5 => ?_) (fun c5 => ?_)
  · refine g_iconst dX0_belowOf_17 ⟨by decide, by decide⟩ ?_
    refine g_ireturn dX0_belowOf_18 (Or.inl rfl) ⟨_, rfl, ?_⟩
    first
      | exact ⟨(if_pos (by omega)).symm, rfl⟩
      | exact ⟨(if_neg (by omega)).symm, rfl⟩
  · refine g_aload_n dX0_belowOf_8 rfl ?_
    refine g_getA dX0_belowOf_9 tf_0_24 (lc_b hB) rfl (crb7 hf hB) ?_
    refine g_iload_n dX0_belowOf_12 rfl ?_
    refine g_ialdN (r) dX0_belowOf_13 (lcb7 hB) (by omega) (by omega) ?_
    refine g_goto (tgt := 18) dX0_belowOf_14 (by decide) ?_
    refine g_ireturn dX0_belowOf_18 (Or.inl rfl) ⟨_, rfl, ?_⟩
    first
      | exact ⟨(if_pos (by omega)).symm, rfl⟩
      | exact ⟨(if_neg (by omega)).symm, rfl⟩

theorem cc0_inOrder {D : Nat} (hD : 2 ≤ D) (σ : am_HS) {b : Nat} (hf : σ.2.2 = cH b) {B : Nat} (hB : B < 2) (N : Nat) (hN : hI σ (6 + B) 0 = (N : Int)) (hN12 : N ≤ 12) (r : Nat) : am_Do lc D mX0_inOrder σ [vR (some (6 + B)), vI (r : Int)] (qI fun z s => z = (if r < N then hI σ (24 + 9 * B) r else -1) ∧ s = σ) := by
  obtain ⟨d, rfl⟩ : ∃ d, D = d + 1 := ⟨D - 1, by omega⟩
  refine am_enter rfl rfl (Nat.le_of_ble_eq_true rfl) ?_
  refine g_aload_n dX0_inOrder_0 rfl ?_
  refine g_iload_n dX0_inOrder_1 rfl ?_
  refine g_callvI dX0_inOrder_2 tm_0_50 rfl ⟨rfl, rfl⟩ (lc_b hB) (Nat.le_of_ble_eq_true rfl) (cc0_isPlace (by omega) σ hB _) (fun z2 s2 h2 => ?_)
  obtain ⟨h2, e2⟩ := h2
  obtain rfl := e2.symm
  refine g_if_eq (tgt := 17) dX0_inOrder_5 (by decide) (fun c5 => ?_) (fun c5 => ?_)
  · refine g_iconst dX0_inOrder_17 ⟨by decide, by decide⟩ ?_
    refine g_ireturn dX0_inOrder_18 (Or.inl rfl) ⟨_, rfl, ?_⟩
    first
      | exact ⟨(if_pos (by omega)).symm, rfl⟩
      | exact ⟨(if_neg (by omega)).symm, rfl⟩
  · refine g_aload_n dX0_inOrder_8 rfl ?_
    refine g_getA dX0_inOrder_9 tf_0_27 (lc_b hB) rfl (crb8 hf hB) ?_
    refine g_iload_n dX0_inOrder_12 rfl ?_
    refine g_ialdN (r) dX0_inOrder_13 (lcb8 hB) (by omega) (by omega) ?_
    refine g_goto (tgt := 18) dX0_inOrder_14 (by decide) ?_
    refine g_ireturn dX0_inOrder_18 (Or.inl rfl) ⟨_, rfl, ?_⟩
    first
      | exact ⟨(if_pos (by omega)).symm, rfl⟩
      | exact ⟨(if_neg (by omega)).symm, rfl⟩

/-- a rule and all that is below it -/
theorem cc0_goal {D : Nat} (hD : 3 ≤ D) (σ : am_HS) {b : Nat} (hf : σ.2.2 = cH b) {B : Nat} (hB : B < 2) (N : Nat) (hN : hI σ (6 + B) 0 = (N : Int)) (hN12 : N ≤ 12) (r : Nat) (hr : r < N) (a : Nat) (ha : hI σ (23 + 9 * B) r = (a : Int)) (ha2 : a < 4194304) : am_Do lc D mX0_goal σ [vR (some (6 + B)), vI (r : Int)] (qI fun z s => z = ((a ||| 2 ^ (10 + r) : Nat) : Int) ∧ s = σ) := by
  have hp := pow_lt22 (m := 10 + r) (by omega)
  obtain ⟨d, rfl⟩ : ∃ d, D = d + 1 := ⟨D - 1, by omega⟩
  refine am_enter rfl rfl (Nat.le_of_ble_eq_true rfl) ?_
  refine g_aload_n dX0_goal_0 rfl ?_
  refine g_iload_n dX0_goal_1 rfl ?_
  refine g_callvI dX0_goal_2 tm_0_54 rfl ⟨rfl, rfl⟩ (lc_b hB) (Nat.le_of_ble_eq_true rfl) (cc0_belowOf (by omega) σ hf hB N hN hN12 r) (fun z2 s2 h2 => ?_)
  obtain ⟨h2, e2⟩ := h2
  obtain rfl := e2.symm
  rw [if_pos hr, ha] at h2
  subst h2
  refine g_iconst dX0_goal_5 ⟨by decide, by decide⟩ ?_
  refine g_bipush dX0_goal_6 (by decide) ?_
  refine g_iload_n dX0_goal_8 rfl ?_
  refine g_iadd dX0_goal_9 rfl ⟨by omega, by omega⟩ ?_
  rw [show (10 : Int) + (r : Int) = ((10 + r : Nat) : Int) from by omega]
  refine g_ishl dX0_goal_10 (bt_shl1 (by omega)) ?_
  refine g_ior dX0_goal_11 (bt_or (by omega) (by omega)) ?_
  refine g_ireturn dX0_goal_12 (Or.inl rfl) ⟨_, rfl, ?_⟩
  exact ⟨rfl, rfl⟩

/-- the bit of a name, or -1 -/
def plC (nm : Nat → Int) (N : Nat) (W v : Int) : Int := if 622 ≤ v ∧ v < 632 then (if v - 622 < W then v - 622 else -1) else if fdS nm N v < 0 then -1 else 10 + fdS nm N v
theorem plC_rs {nm : Nat → Int} {N : Nat} (hN : N ≤ 12) {W v : Int} (hnm : ∀ j, j < N → ¬ (622 ≤ nm j ∧ nm j < 632)) : (rsS nm N W v < 0 ∧ plC nm N W v = -1) ∨ (0 ≤ rsS nm N W v ∧ plC nm N W v = (tgE (rsS nm N W v) : Int) ∧ tgE (rsS nm N W v) < 22) := by
  unfold plC rsS wkS tgE
  by_cases h : 622 ≤ v ∧ v < 632
  · have hf : fdS nm N v = -1 := by
      rcases fdS_r nm N v with z | ⟨j, z1, z2, z3, _⟩
      · exact z.1
      · exact absurd (z3 ▸ h) (hnm j z2)
    rw [if_pos h, if_pos h, hf, if_neg (show ¬ (0 : Int) ≤ -1 by omega)]
    by_cases hw : v - 622 < W
    · rw [if_pos hw, if_pos ⟨by omega, hw⟩, if_neg (by omega)]
      exact Or.inr ⟨by omega, by omega, by omega⟩
    · rw [if_neg hw, if_neg (fun z => hw z.2)]
      exact Or.inl ⟨by omega, rfl⟩
  · rw [if_neg h, if_neg h, if_neg (show ¬ ((0 : Int) ≤ -1 ∧ (-1 : Int) < W) by omega)]
    rcases fdS_r nm N v with z | ⟨j, z1, z2, _, _⟩
    · rw [z.1, if_neg (show ¬ (0 : Int) ≤ -1 by omega), if_pos (show (-1 : Int) < 0 by omega)]
      exact Or.inl ⟨by omega, rfl⟩
    · rw [z1, if_pos (show (0 : Int) ≤ (j : Int) by omega), if_neg (show ¬ (j : Int) < 0 by omega), if_pos (show (j : Int) < 100 by omega)]
      exact Or.inr ⟨by omega, by omega, by omega⟩
theorem cc0_placeOf {D : Nat} (hD : 2 ≤ D) (σ : am_HS) {b : Nat} (hf : σ.2.2 = cH b) {B : Nat} (hB : B < 2) (N : Nat) (hN : hI σ (6 + B) 0 = (N : Int)) (hN12 : N ≤ 12) (v : Int) (hv : -1000000 ≤ v ∧ v ≤ 1000000) (W : Int) : am_Do lc D mX0_placeOf σ [vR (some (6 + B)), vI v, vI W] (qI fun z s => z = plC (fun k => hI σ (19 + 9 * B) k) N W v ∧ s = σ) := by
  obtain ⟨d, rfl⟩ : ∃ d, D = d + 1 := ⟨D - 1, by omega⟩
  refine am_enter rfl rfl (Nat.le_of_ble_eq_true rfl) ?_
  refine g_iload_n dX0_placeOf_0 rfl ?_
  refine g_sipush dX0_placeOf_1 (by decide) ?_
  refine g_isub dX0_placeOf_4 rfl ⟨by omega, by omega⟩ ?_
  refine g_istore_n dX0_placeOf_5 (by decide) rfl ?_
  refine g_iload_n dX0_placeOf_6 rfl ?_
  refine g_if_lt (tgt := 27) dX0_placeOf_7 (by decide) (fun c7 => ?_) (fun c7 => ?_)
  · refine g_aload_n dX0_placeOf_27 rfl ?_
    refine g_iload_n dX0_placeOf_28 rfl ?_
    refine g_callvI dX0_placeOf_29 tm_0_62 rfl ⟨rfl, rfl⟩ (lc_b hB) (Nat.le_of_ble_eq_true rfl) (cc0_find (by omega) σ hf hB N hN hN12 v) (fun z29 s29 h29 => ?_)
    obtain ⟨h29, e29⟩ := h29
    obtain rfl := e29.symm
    have hfr := fdS_r (fun k => hI σ (19 + 9 * B) k) N v
    have hz29 : -1 ≤ z29 ∧ z29 < 12 := by
      rw [h29]
      rcases hfr with z | ⟨j, z1, z2, _⟩
      · omega
      · omega
    clear hfr
    refine g_istore dX0_placeOf_32 (by decide) rfl ?_
    refine g_iload dX0_placeOf_34 rfl ?_
    refine g_if_ge (tgt := 43) dX0_placeOf_36 (by decide) (fun c36 => ?_) (fun c36 => ?_)
    · refine g_bipush dX0_placeOf_43 (by decide) ?_
      refine g_iload dX0_placeOf_45 rfl ?_
      refine g_iadd dX0_placeOf_47 rfl ⟨by omega, by omega⟩ ?_
      refine g_ireturn dX0_placeOf_48 (Or.inl rfl) ⟨_, rfl, ?_⟩
      refine ⟨?_, rfl⟩
      unfold plC
      first
        | rw [if_pos ⟨by omega, by omega⟩, if_pos (by omega)]
        | rw [if_pos ⟨by omega, by omega⟩, if_neg (by omega)]
        | rw [if_neg (by omega), ← h29, if_pos (by omega)]
        | rw [if_neg (by omega), ← h29, if_neg (by omega)]
    · refine g_iconst dX0_placeOf_39 ⟨by decide, by decide⟩ ?_
      refine g_goto (tgt := 48) dX0_placeOf_40 (by decide) ?_
      refine g_ireturn dX0_placeOf_48 (Or.inl rfl) ⟨_, rfl, ?_⟩
      refine ⟨?_, rfl⟩
      unfold plC
      first
        | rw [if_pos ⟨by omega, by omega⟩, if_pos (by omega)]
        | rw [if_pos ⟨by omega, by omega⟩, if_neg (by omega)]
        | rw [if_neg (by omega), ← h29, if_pos (by omega)]
        | rw [if_neg (by omega), ← h29, if_neg (by omega)]
  · refine g_iload_n dX0_placeOf_10 rfl ?_
    refine g_bipush dX0_placeOf_11 (by decide) ?_
    refine g_icmp_ge (tgt := 27) dX0_placeOf_13 (by decide) (fun c13 => ?_) (fun c13 => ?_)
    · refine g_aload_n dX0_placeOf_27 rfl ?_
      refine g_iload_n dX0_placeOf_28 rfl ?_
      refine g_callvI dX0_placeOf_29 tm_0_62 rfl ⟨rfl, rfl⟩ (lc_b hB) (Nat.le_of_ble_eq_true rfl) (cc0_find (by omega) σ hf hB N hN hN12 v) (fun z29 s29 h29 => ?_)
      obtain ⟨h29, e29⟩ := h29
      obtain rfl := e29.symm
      have hfr := fdS_r (fun k => hI σ (19 + 9 * B) k) N v
      have hz29 : -1 ≤ z29 ∧ z29 < 12 := by
        rw [h29]
        rcases hfr with z | ⟨j, z1, z2, _⟩
        · omega
        · omega
      clear hfr
      refine g_istore dX0_placeOf_32 (by decide) rfl ?_
      refine g_iload dX0_placeOf_34 rfl ?_
      refine g_if_ge (tgt := 43) dX0_placeOf_36 (by decide) (fun c36 => ?_) (fun c36 => ?_)
      · refine g_bipush dX0_placeOf_43 (by decide) ?_
        refine g_iload dX0_placeOf_45 rfl ?_
        refine g_iadd dX0_placeOf_47 rfl ⟨by omega, by omega⟩ ?_
        refine g_ireturn dX0_placeOf_48 (Or.inl rfl) ⟨_, rfl, ?_⟩
        refine ⟨?_, rfl⟩
        unfold plC
        first
          | rw [if_pos ⟨by omega, by omega⟩, if_pos (by omega)]
          | rw [if_pos ⟨by omega, by omega⟩, if_neg (by omega)]
          | rw [if_neg (by omega), ← h29, if_pos (by omega)]
          | rw [if_neg (by omega), ← h29, if_neg (by omega)]
      · refine g_iconst dX0_placeOf_39 ⟨by decide, by decide⟩ ?_
        refine g_goto (tgt := 48) dX0_placeOf_40 (by decide) ?_
        refine g_ireturn dX0_placeOf_48 (Or.inl rfl) ⟨_, rfl, ?_⟩
        refine ⟨?_, rfl⟩
        unfold plC
        first
          | rw [if_pos ⟨by omega, by omega⟩, if_pos (by omega)]
          | rw [if_pos ⟨by omega, by omega⟩, if_neg (by omega)]
          | rw [if_neg (by omega), ← h29, if_pos (by omega)]
          | rw [if_neg (by omega), ← h29, if_neg (by omega)]
    · refine g_iload_n dX0_placeOf_16 rfl ?_
      refine g_iload_n dX0_placeOf_17 rfl ?_
      refine g_icmp_ge (tgt := 25) dX0_placeOf_18 (by decide) (fun c18 => ?_) (fun c18 => ?_)
      · refine g_iconst dX0_placeOf_25 ⟨by decide, by decide⟩ ?_
        refine g_ireturn dX0_placeOf_26 (Or.inl rfl) ⟨_, rfl, ?_⟩
        refine ⟨?_, rfl⟩
        unfold plC
        first
          | rw [if_pos ⟨by omega, by omega⟩, if_pos (by omega)]
          | rw [if_pos ⟨by omega, by omega⟩, if_neg (by omega)]
          | rw [if_neg (by omega), ← h29, if_pos (by omega)]
          | rw [if_neg (by omega), ← h29, if_neg (by omega)]
      · refine g_iload_n dX0_placeOf_21 rfl ?_
        refine g_goto (tgt := 26) dX0_placeOf_22 (by decide) ?_
        refine g_ireturn dX0_placeOf_26 (Or.inl rfl) ⟨_, rfl, ?_⟩
        refine ⟨?_, rfl⟩
        unfold plC
        first
          | rw [if_pos ⟨by omega, by omega⟩, if_pos (by omega)]
          | rw [if_pos ⟨by omega, by omega⟩, if_neg (by omega)]
          | rw [if_neg (by omega), ← h29, if_pos (by omega)]
          | rw [if_neg (by omega), ← h29, if_neg (by omega)]

