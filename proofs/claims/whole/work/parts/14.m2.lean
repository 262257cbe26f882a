/-! THE REFERENCE: fractions -/
theorem tl_gcd (X Y : Nat) : Nat.gcd Y (X % Y) = Nat.gcd X Y := by rw [Nat.gcd_comm X Y, Nat.gcd_rec Y X, Nat.gcd_comm]
theorem tl_rem (X Y : Nat) : ((X : Int)).tmod (Y : Int) = ((X % Y : Nat) : Int) := (Int.ofNat_tmod X Y).symm
theorem dv_b {g q M : Int} (hg : 1 ≤ g) (h : -M ≤ g * q ∧ g * q ≤ M) : -M ≤ q ∧ q ≤ M := by
  rcases Int.le_total 0 q with h1 | h1
  · have h2 : 1 * q ≤ g * q := Int.mul_le_mul_of_nonneg_right hg h1
    rw [Int.one_mul] at h2
    omega
  · have h2 : g * q ≤ 1 * q := Int.mul_le_mul_of_nonpos_right hg h1
    rw [Int.one_mul] at h2
    omega
theorem dv_e {g a M : Int} (hg : 1 ≤ g) (hd : g ∣ a) (h : -M ≤ a ∧ a ≤ M) : -M ≤ a / g ∧ a / g ≤ M := by
  obtain ⟨q, rfl⟩ := hd
  rw [Int.mul_ediv_cancel_left _ (by omega)]
  exact dv_b hg h
set_option maxHeartbeats 1000000 in
theorem cm_tells {D : Nat} (hD : 1 ≤ D) (σ : am_HS) (a b : Int) (ha : -4000000000000000000 ≤ a ∧ a ≤ 4000000000000000000) (hb : 1 ≤ b ∧ b ≤ 4000000000000000000) : am_Do lm D mX7_tells σ [vR (some 0), vL a, vL b] (qV fun s => ∃ z U W, s = uT σ z U W ∧ vt (nrm a b) z U W) := by
  obtain ⟨d, rfl⟩ : ∃ d, D = d + 1 := ⟨D - 1, by omega⟩
  refine am_enter rfl rfl (Nat.le_of_ble_eq_true rfl) ?_
  have hgp := gcd_pos (a := a) hb.1
  have hda : (Int.gcd a b : Int) ∣ a := Int.gcd_dvd_left ..
  have hdb : (Int.gcd a b : Int) ∣ b := Int.gcd_dvd_right ..
  have hU := dv_e (by omega) hda ha
  have hW := dv_e (M := 4000000000000000000) (by omega) hdb ⟨by omega, hb.2⟩
  have hW1 : 1 ≤ b / (Int.gcd a b : Int) := by
    have := Int.ediv_pos_of_pos_of_dvd (by omega : 0 < b) (by omega) hdb
    omega
  have eU : a.tdiv (Int.gcd a b : Int) = a / (Int.gcd a b : Int) := Int.tdiv_eq_ediv_of_dvd hda
  have eW : b.tdiv (Int.gcd a b : Int) = b / (Int.gcd a b : Int) := Int.tdiv_eq_ediv_of_dvd hdb
  have loop : ∀ (Y X : Nat), X ≤ 4000000000000000000 → Y ≤ 4000000000000000000 → Nat.gcd X Y = Int.gcd a b → ∀ o9 o10 : Option am_V, am_Go lm d 7 11 0 cX7_tells 9 [some (vR (some 0)), some (vL a), none, some (vL b), none, some (vL (X : Int)), none, some (vL (Y : Int)), none, o9, o10] [] σ (qV fun s => ∃ z U W, s = uT σ z U W ∧ vt (nrm a b) z U W) := by
    intro Y
    induction Y using Nat.strongRecOn with
    | ind Y ih =>
    intro X hX hY hg o9 o10
    refine g_lload dX7_tells_9 rfl ?_
    refine g_lconst0 dX7_tells_11 ?_
    refine g_lc_eq (tgt := 34) dX7_tells_12 dX7_tells_13 (by decide) (fun c13 => ?_) (fun c13 => ?_)
    · have hY0 : Y = 0 := by omega
      subst hY0
      rw [Nat.gcd_zero_right] at hg
      rw [hg]
      refine g_aload_n dX7_tells_34 rfl ?_
      refine g_lload_n dX7_tells_35 rfl ?_
      refine g_lload dX7_tells_36 rfl ?_
      refine g_ldiv dX7_tells_38 (by omega) eU ⟨by omega, by omega⟩ ?_
      refine g_putL dX7_tells_39 tf_7_255 rfl rfl rfl ?_
      refine g_aload_n dX7_tells_42 rfl ?_
      refine g_lload_n dX7_tells_43 rfl ?_
      refine g_lload dX7_tells_44 rfl ?_
      refine g_ldiv dX7_tells_46 (by omega) rfl ⟨by omega, by omega⟩ ?_
      refine g_putL dX7_tells_47 tf_7_259 rfl rfl rfl ?_
      refine g_aload_n dX7_tells_50 rfl ?_
      refine g_aload_n dX7_tells_51 rfl ?_
      refine g_getL dX7_tells_52 tf_7_255 rfl rfl ?_
      rw [show ∀ W, hL (uL (uL σ 0 49 (a / (Int.gcd a b : Int))) 0 50 W) 0 49 = a / (Int.gcd a b : Int) from fun W => (hL_uL_n (by decide)).trans (hL_uL_e ⟨by omega, by omega⟩)]
      refine g_ldc2 dX7_tells_55 tj_7_298 ⟨by decide, by decide⟩ ?_
      refine g_lc_gt (tgt := 84) dX7_tells_58 dX7_tells_59 (by decide) (fun c59 => ?_) (fun c59 => ?_)
      · refine g_iconst dX7_tells_84 ⟨by decide, by decide⟩ ?_
        refine g_goto (tgt := 89) dX7_tells_85 (by decide) ?_
        refine g_putI dX7_tells_89 tf_7_252 rfl rfl rfl ?_
        refine g_return dX7_tells_92 rfl ⟨rfl, ?_⟩
        first
          | exact ⟨2, _, _, rfl, by unfold nrm; rw [if_pos (by omega)]; rfl⟩
          | exact ⟨1, _, _, rfl, by unfold nrm; rw [if_neg (by omega)]; exact ⟨rfl, by first | rfl | exact eU, by first | rfl | exact eW⟩⟩
      · refine g_aload_n dX7_tells_62 rfl ?_
        refine g_getL dX7_tells_63 tf_7_255 rfl rfl ?_
        rw [show ∀ W, hL (uL (uL σ 0 49 (a / (Int.gcd a b : Int))) 0 50 W) 0 49 = a / (Int.gcd a b : Int) from fun W => (hL_uL_n (by decide)).trans (hL_uL_e ⟨by omega, by omega⟩)]
        refine g_ldc2 dX7_tells_66 tj_7_300 ⟨by decide, by decide⟩ ?_
        refine g_lc_lt (tgt := 84) dX7_tells_69 dX7_tells_70 (by decide) (fun c70 => ?_) (fun c70 => ?_)
        · refine g_iconst dX7_tells_84 ⟨by decide, by decide⟩ ?_
          refine g_goto (tgt := 89) dX7_tells_85 (by decide) ?_
          refine g_putI dX7_tells_89 tf_7_252 rfl rfl rfl ?_
          refine g_return dX7_tells_92 rfl ⟨rfl, ?_⟩
          first
            | exact ⟨2, _, _, rfl, by unfold nrm; rw [if_pos (by omega)]; rfl⟩
            | exact ⟨1, _, _, rfl, by unfold nrm; rw [if_neg (by omega)]; exact ⟨rfl, by first | rfl | exact eU, by first | rfl | exact eW⟩⟩
        · refine g_aload_n dX7_tells_73 rfl ?_
          refine g_getL dX7_tells_74 tf_7_259 rfl rfl ?_
          rw [hL_uL_e ⟨by omega, by omega⟩]
          refine g_ldc2 dX7_tells_77 tj_7_298 ⟨by decide, by decide⟩ ?_
          refine g_lc_le (tgt := 88) dX7_tells_80 dX7_tells_81 (by decide) (fun c81 => ?_) (fun c81 => ?_)
          · refine g_iconst dX7_tells_88 ⟨by decide, by decide⟩ ?_
            refine g_putI dX7_tells_89 tf_7_252 rfl rfl rfl ?_
            refine g_return dX7_tells_92 rfl ⟨rfl, ?_⟩
            first
              | exact ⟨2, _, _, rfl, by unfold nrm; rw [if_pos (by omega)]; rfl⟩
              | exact ⟨1, _, _, rfl, by unfold nrm; rw [if_neg (by omega)]; exact ⟨rfl, by first | rfl | exact eU, by first | rfl | exact eW⟩⟩
          · refine g_iconst dX7_tells_84 ⟨by decide, by decide⟩ ?_
            refine g_goto (tgt := 89) dX7_tells_85 (by decide) ?_
            refine g_putI dX7_tells_89 tf_7_252 rfl rfl rfl ?_
            refine g_return dX7_tells_92 rfl ⟨rfl, ?_⟩
            first
              | exact ⟨2, _, _, rfl, by unfold nrm; rw [if_pos (by omega)]; rfl⟩
              | exact ⟨1, _, _, rfl, by unfold nrm; rw [if_neg (by omega)]; exact ⟨rfl, by first | rfl | exact eU, by first | rfl | exact eW⟩⟩
    · have hml := Nat.mod_lt X (show 0 < Y by omega)
      refine g_lload dX7_tells_16 rfl ?_
      refine g_lload dX7_tells_18 rfl ?_
      refine g_lrem dX7_tells_20 (by omega) (tl_rem X Y) ⟨by omega, by omega⟩ ?_
      refine g_lstore dX7_tells_21 (by decide) rfl ?_
      refine g_lload dX7_tells_23 rfl ?_
      refine g_lstore dX7_tells_25 (by decide) rfl ?_
      refine g_lload dX7_tells_27 rfl ?_
      refine g_lstore dX7_tells_29 (by decide) rfl ?_
      refine g_goto (tgt := 9) dX7_tells_31 (by decide) ?_
      exact ih (X % Y) hml Y (by omega) (by omega) (by rw [tl_gcd]; exact hg) _ _
  refine g_lload_n dX7_tells_0 rfl ?_
  refine g_absL dX7_tells_1 tb_7_292 (Nat.le_of_ble_eq_true rfl) rfl ⟨by omega, by omega⟩ ?_
  refine g_lstore dX7_tells_4 (by decide) rfl ?_
  refine g_lload_n dX7_tells_6 rfl ?_
  refine g_lstore dX7_tells_7 (by decide) rfl ?_
  rw [show (if 0 < a then a else -a) = ((a.natAbs : Nat) : Int) by omega, show b = ((b.natAbs : Nat) : Int) by omega]
  have := loop b.natAbs a.natAbs (by omega) (by omega) rfl none none
  rw [show ((b.natAbs : Nat) : Int) = b by omega] at this ⊢
  exact this
