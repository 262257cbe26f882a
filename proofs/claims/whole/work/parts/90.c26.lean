/-! THE CLASS: `read` -/
theorem rd0 {tx : Nat → Int} {n W b B : Nat} {σ s2 s : am_HS} (hb : b + B = 1) (hf : σ.2.2 = cH b) (hW : W ≤ 600) (hfr : FrT σ s2) (hW0 : (tkT tx n W).1 = 0) (hT : TkR tx n (W + 1) s2) {τ : am_HS} (hτ : τ = uI (uI (uI (uI s2 (6 + B) 0 0) (6 + B) 1 0) (6 + B) 2 0) 4 9 (-1)) (hs' : s = uI (uI (uI τ 4 6 ((0 : Nat) : Int)) 4 7 (hI τ 10 0)) 4 8 (hI τ 11 0)) : RX tx n W b B 0 s ∧ CI W B 0 0 s ∧ RLs B n tx [] (fun _ => 0) s ∧ RF B σ s := by
  have e10 : ∀ o, 10 ≤ o → hI τ o 0 = hI s2 o 0 := fun o h => by
    rw [hτ, hI_uI_n (by omega), hI_uI_n (by omega), hI_uI_n (by omega), hI_uI_n (by omega)]
  have hs : s = uI (uI (uI (uI (uI (uI (uI s2 (6 + B) 0 0) (6 + B) 1 0) (6 + B) 2 0) 4 9 (-1)) 4 6 ((0 : Nat) : Int)) 4 7 (hI s2 10 0)) 4 8 (hI s2 11 0) := by
    rw [hs', e10 10 (by omega), e10 11 (by omega), hτ]
  have ho : ∀ o j, o ≠ 4 → o ≠ 6 + B → hI s o j = hI s2 o j := fun o j z1 z2 => by
    rw [hs, hI_uI_n (by omega), hI_uI_n (by omega), hI_uI_n (by omega), hI_uI_n (by omega), hI_uI_n (by omega), hI_uI_n (by omega), hI_uI_n (by omega)]
  have hr : RF B σ s := by
    refine (hfr.fr).tr ?_
    rw [hs]
    exact (((((((RF.rf B s2).u (by unfold rdP; omega)).u (by unfold rdP; omega)).u (by unfold rdP; omega)).u (by unfold rdP; omega)).u (by unfold rdP; omega)).u (by unfold rdP; omega)).u (by unfold rdP; omega)
  have m0 : hI s (6 + B) 1 = 0 := by
    rw [hs, hI_uI_n (by omega), hI_uI_n (by omega), hI_uI_n (by omega), hI_uI_n (by omega), hI_uI_n (by omega), hI_uI_e ⟨by omega, by omega⟩]
  refine ⟨⟨(congrArg Prod.snd hr.1).trans hf, ?_, fun l hl => ?_, ⟨hb, by omega, hW⟩, hW0⟩, ⟨?_, ?_, ?_, ?_, by omega, ?_⟩, ⟨by show 0 ≤ 12; decide, rfl, fun k a hk => (by cases hk), Or.inl m0, ?_⟩, hr⟩
  · rw [hs, hI_uI_n (by omega), hI_uI_n (by omega), hI_uI_n (by omega), hI_uI_n (by omega), hI_uI_n (by omega), hI_uI_n (by omega), hI_uI_e ⟨by omega, by omega⟩]
    rfl
  · rw [ho 10 l (by omega) (by omega), ho 11 l (by omega) (by omega), ho 12 l (by omega) (by omega)]
    exact hT l hl
  · rw [hs, hI_uI_n (by omega), hI_uI_n (by omega), hI_uI_e ⟨by omega, by omega⟩]
  · rw [ho 10 0 (by omega) (by omega), hs, hI_uI_n (by omega), hI_uI_e (hI_r _ _ _)]
  · rw [ho 11 0 (by omega) (by omega), hs, hI_uI_e (hI_r _ _ _)]
  · rw [hs, hI_uI_n (by omega), hI_uI_n (by omega), hI_uI_n (by omega), hI_uI_e ⟨by omega, by omega⟩]
    decide
  · rw [hs, hI_uI_n (by omega), hI_uI_n (by omega), hI_uI_n (by omega), hI_uI_n (by omega), hI_uI_e ⟨by omega, by omega⟩]
    rfl
  · constructor
    · intro z
      exact absurd m0 z
    · rintro ⟨a, ha, _⟩
      cases ha
theorem cc1_read {D : Nat} (hD : 41 ≤ D) (σ : am_HS) {b B : Nat} (hb : b + B = 1) (hf : σ.2.2 = cH b) {tx : Nat → Int} (htx : ∀ j, tx j = hI σ 9 j % 256) (hb9 : ∀ j, -128 ≤ hI σ 9 j ∧ hI σ 9 j ≤ 127) (n : Nat) (hn : n ≤ 600) : am_Do lc D mX1_read σ [vR (some 4), vI (n : Int)] (qI fun z s => RdQ B n tx σ (pRA (tkT tx n) 13 [] 0) z s) := by
  have hB : B < 2 := by omega
  have hb1 : B < 2 := hB
  have hrB : cH b 4 2 = some (6 + B) := by
    show some (7 - b) = some (6 + B)
    rw [show 7 - b = 6 + B by omega]
  obtain ⟨d, rfl⟩ : ∃ d, D = d + 1 := ⟨D - 1, by omega⟩
  refine am_enter rfl rfl (Nat.le_of_ble_eq_true rfl) ?_
  refine g_aload_n dX1_read_0 rfl ?_
  refine g_iload_n dX1_read_1 rfl ?_
  refine g_callvV dX1_read_2 tm_1_39 rfl ⟨rfl, rfl⟩ rfl (Nat.le_of_ble_eq_true rfl) (cc1_part (by omega) σ hf htx hb9 n hn) (fun s2 h2 => ?_)
  obtain ⟨hfr, W, hWn, hW0, hWp, hTk⟩ := h2
  have hf2 : s2.2.2 = cH b := (congrArg Prod.snd hfr.1).trans hf
  refine g_aload_n dX1_read_5 rfl ?_
  refine g_getA dX1_read_6 tf_1_18 rfl rfl (crf hf2 hrB) ?_
  refine g_callvV dX1_read_9 tm_1_43 rfl ⟨rfl, rfl⟩ (lc_b hb1) (Nat.le_of_ble_eq_true rfl) (cc0_clear (by omega) s2 hB) (fun s9 h9 => ?_)
  subst h9
  refine g_aload_n dX1_read_12 rfl ?_
  refine g_iconst dX1_read_13 ⟨by decide, by decide⟩ ?_
  refine g_putI dX1_read_14 tf_1_32 rfl rfl rfl ?_
  refine g_aload_n dX1_read_17 rfl ?_
  refine g_iconst dX1_read_18 ⟨by decide, by decide⟩ ?_
  refine g_callvV dX1_read_19 tm_1_46 rfl ⟨rfl, rfl⟩ rfl (Nat.le_of_ble_eq_true rfl) (cc1_turnTo (D := d) (by omega) (uI (uI (uI (uI s2 (6 + B) 0 0) (6 + B) 1 0) (6 + B) 2 0) 4 9 (-1)) (b := b) hf2 0 (by decide)) (fun s19 h19 => ?_)
  obtain ⟨r1, r2, r3, r4⟩ := rd0 hb hf (by omega) hfr hW0 hTk rfl h19
  refine g_iconst dX1_read_22 ⟨by decide, by decide⟩ ?_
  refine g_istore_n dX1_read_23 (by decide) rfl ?_
  exact cc1_readL (by omega) 13 [] 0 (fun _ => 0) 0 s19 rfl r1 r2 rfl (by omega) r3 r4 (Or.inl rfl)
