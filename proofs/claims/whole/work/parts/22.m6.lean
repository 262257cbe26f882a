/-! THE REFERENCE: products, caps -/
theorem mul_c {x y : Int} (hx : -1000000000 ≤ x ∧ x ≤ 1000000000) (hy : -1000000000 ≤ y ∧ y ≤ 1000000000) : -1000000000000000000 ≤ x * y ∧ x * y ≤ 1000000000000000000 := by
  rcases Int.le_total 0 y with h | h
  · exact mul_b2 hx ⟨h, hy.2⟩
  · have := mul_b2 hx (y := -y) (N := 1000000000) ⟨by omega, by omega⟩
    rw [Int.mul_neg] at this
    omega
theorem cm_multiplies {D : Nat} (hD : 2 ≤ D) (σ : am_HS) (hf : σ.2.2 = mH) (x : Nat) (hx : x < 3200) (l : List (Nat × Vl)) (hl : Lk σ (hI σ 19 x) l) (hn : ∀ q ∈ l, ∃ u w, q.2 = vN u w) (ht : ∀ q ∈ l, hI σ 22 q.1 ≠ 0 → hI σ 17 q.1 = 0 → ∃ u, q.2 = vN u 1 ∧ 1 ≤ u) (F : Vl) (hF : prodF (vN 1 1) (l.map (ceM σ)) = F) : am_Do lm D mX7_multiplies σ [vR (some 0), vI (x : Int)] (qV fun s => ∃ z U W, s = uT σ z U W ∧ vt F z U W) := by
  obtain ⟨d, rfl⟩ : ∃ d, D = d + 1 := ⟨D - 1, by omega⟩
  refine am_enter rfl rfl (Nat.le_of_ble_eq_true rfl) ?_
  have loop : ∀ (k : List (Nat × Vl)) (y : Int) (acc : Vl) (z U W : Int), Lk σ y k → (∀ q ∈ k, ∃ u w, q.2 = vN u w) → (∀ q ∈ k, hI σ 22 q.1 ≠ 0 → hI σ 17 q.1 = 0 → ∃ u, q.2 = vN u 1 ∧ 1 ≤ u) → vt acc z U W → vok acc → acc ≠ vO → prodF acc (k.map (ceM σ)) = F → am_Go lm d 7 3 0 cX7_multiplies 13 [some (vR (some 0)), some (vI (x : Int)), some (vI y)] [] (uT σ z U W) (qV fun s => ∃ z U W, s = uT σ z U W ∧ vt F z U W) := by
    intro k
    induction k with
    | nil =>
      intro y acc z U W hk hn ht hv hok hnO hF
      have hy : y < 0 := hk
      have hF : acc = F := hF
      refine g_iload_n dX7_multiplies_13 rfl ?_
      refine g_if_lt (tgt := 101) dX7_multiplies_14 (by decide) (fun c14 => ?_) (fun c14 => ?_)
      · refine g_return dX7_multiplies_101 rfl ⟨rfl, ?_⟩
        exact ⟨z, U, W, rfl, hF ▸ hv⟩
      · exfalso; omega
    | cons q t ih =>
      intro y acc z U W hk hn ht hv hok hnO hF
      obtain ⟨rfl, ha, hq, hqok, hk⟩ := hk
      have hz := vt_z hv
      obtain ⟨u, w, e2⟩ := hn q (by simp)
      have ht1 := ht q (by simp)
      rw [e2] at hq hqok
      obtain ⟨hq1, hq2, hq3⟩ := hq
      dsimp only at hq2 hq3
      obtain ⟨ra, rb⟩ := vokN hqok
      have hF : prodF (prodS1 acc (ceM σ q)) (t.map (ceM σ)) = F := hF
      refine g_iload_n dX7_multiplies_13 rfl ?_
      refine g_if_lt (tgt := 101) dX7_multiplies_14 (by decide) (fun c14 => ?_) (fun c14 => ?_)
      · exfalso; omega
      · refine g_aload_n dX7_multiplies_17 rfl ?_
        refine g_getI dX7_multiplies_18 tf_7_252 rfl rfl ?_
        rw [hI_uT_s ⟨by omega, by omega⟩]
        refine g_iconst dX7_multiplies_21 ⟨by decide, by decide⟩ ?_
        refine g_icmp_ne (tgt := 101) dX7_multiplies_22 (by decide) (fun c22 => ?_) (fun c22 => ?_)
        · have hX : acc = vX := (vt_n1 hv c22).resolve_left hnO
          refine g_return dX7_multiplies_101 rfl ⟨rfl, ?_⟩
          refine ⟨z, U, W, rfl, ?_⟩
          rw [← hF, hX, show prodS1 vX (ceM σ q) = vX from by unfold prodS1; split <;> first | rfl | (split <;> rfl), prodF_lost]
          rw [hX] at hv
          exact hv
        · have e1 := vt_1 hv (by omega)
          subst e1
          obtain ⟨rU, rW⟩ := vokN hok
          have q1 := mul_b2 rU ⟨(by omega : (0:Int) ≤ w), rb.2⟩
          have q2 := mul_b2 rU (y := w) ⟨by omega, rb.2⟩
          have q3 := mul_p rW rb
          refine g_aload_n dX7_multiplies_25 rfl ?_
          refine g_getA dX7_multiplies_26 tf_7_74 rfl rfl (mrf hf rfl) ?_
          refine g_iload_n dX7_multiplies_29 rfl ?_
          refine g_zaldN (q.1) dX7_multiplies_30 rfl (by omega) (by omega) ?_
          rw [hI_uT (by omega)]
          refine g_if_eq (tgt := 65) dX7_multiplies_31 (by decide) (fun c31 => ?_) (fun c31 => ?_)
          · refine g_aload_n dX7_multiplies_65 rfl ?_
            refine g_aload_n dX7_multiplies_66 rfl ?_
            refine g_getL dX7_multiplies_67 tf_7_255 rfl rfl ?_
            rw [hL_uT_u ⟨by omega, by omega⟩]
            refine g_aload_n dX7_multiplies_70 rfl ?_
            refine g_getA dX7_multiplies_71 tf_7_120 rfl rfl (mrf hf rfl) ?_
            refine g_iload_n dX7_multiplies_74 rfl ?_
            refine g_laldN (q.1) dX7_multiplies_75 rfl (by omega) (by omega) ?_
            rw [hL_uT (by omega), hq2]
            refine g_lmul dX7_multiplies_76 rfl ⟨by have q5 := mul_c rU ra; omega, by have q5 := mul_c rU ra; omega⟩ ?_
            refine g_aload_n dX7_multiplies_77 rfl ?_
            refine g_getL dX7_multiplies_78 tf_7_259 rfl rfl ?_
            rw [hL_uT_w ⟨by omega, by omega⟩]
            refine g_aload_n dX7_multiplies_81 rfl ?_
            refine g_getA dX7_multiplies_82 tf_7_123 rfl rfl (mrf hf rfl) ?_
            refine g_iload_n dX7_multiplies_85 rfl ?_
            refine g_laldN (q.1) dX7_multiplies_86 rfl (by omega) (by omega) ?_
            rw [hL_uT (by omega), hq3]
            refine g_lmul dX7_multiplies_87 rfl ⟨by omega, by omega⟩ ?_
            refine g_callvV dX7_multiplies_88 tm_7_320 rfl ⟨rfl, rfl⟩ rfl (Nat.le_of_ble_eq_true rfl) (cm_tells (by omega) _ _ _ ⟨by have q5 := mul_c rU ra; omega, by have q5 := mul_c rU ra; omega⟩ ⟨by omega, by omega⟩) (fun s88 h88 => ?_)
            obtain ⟨tz, tU, tW, rfl, hvt⟩ := h88
            refine g_aload_n dX7_multiplies_91 rfl ?_
            refine g_getA dX7_multiplies_92 tf_7_68 rfl rfl (mrf hf rfl) ?_
            refine g_iload_n dX7_multiplies_95 rfl ?_
            refine g_ialdN (q.1) dX7_multiplies_96 rfl (by omega) (by omega) ?_
            rw [uT_uT, hI_uT (by omega)]
            refine g_istore_n dX7_multiplies_97 (by decide) rfl ?_
            refine g_goto (tgt := 13) dX7_multiplies_98 (by decide) ?_
            refine ih _ _ _ _ _ hk (fun a ha => hn a (by simp [ha])) (fun a ha => ht a (by simp [ha])) hvt (nrm_ok (by omega)) (nrm_nO _ _) ?_
            rw [← hF]
            congr 1
            unfold prodS1 ceM
            rw [e2]
            dsimp only
            first
              | (rw [if_pos ⟨by omega, by omega⟩]; rfl)
              | (rw [if_neg (by omega)]; rfl)
          · refine g_aload_n dX7_multiplies_34 rfl ?_
            refine g_getA dX7_multiplies_35 tf_7_59 rfl rfl (mrf hf rfl) ?_
            refine g_iload_n dX7_multiplies_38 rfl ?_
            refine g_ialdN (q.1) dX7_multiplies_39 rfl (by omega) (by omega) ?_
            rw [hI_uT (by omega)]
            refine g_if_ne (tgt := 65) dX7_multiplies_40 (by decide) (fun c40 => ?_) (fun c40 => ?_)
            · refine g_aload_n dX7_multiplies_65 rfl ?_
              refine g_aload_n dX7_multiplies_66 rfl ?_
              refine g_getL dX7_multiplies_67 tf_7_255 rfl rfl ?_
              rw [hL_uT_u ⟨by omega, by omega⟩]
              refine g_aload_n dX7_multiplies_70 rfl ?_
              refine g_getA dX7_multiplies_71 tf_7_120 rfl rfl (mrf hf rfl) ?_
              refine g_iload_n dX7_multiplies_74 rfl ?_
              refine g_laldN (q.1) dX7_multiplies_75 rfl (by omega) (by omega) ?_
              rw [hL_uT (by omega), hq2]
              refine g_lmul dX7_multiplies_76 rfl ⟨by have q5 := mul_c rU ra; omega, by have q5 := mul_c rU ra; omega⟩ ?_
              refine g_aload_n dX7_multiplies_77 rfl ?_
              refine g_getL dX7_multiplies_78 tf_7_259 rfl rfl ?_
              rw [hL_uT_w ⟨by omega, by omega⟩]
              refine g_aload_n dX7_multiplies_81 rfl ?_
              refine g_getA dX7_multiplies_82 tf_7_123 rfl rfl (mrf hf rfl) ?_
              refine g_iload_n dX7_multiplies_85 rfl ?_
              refine g_laldN (q.1) dX7_multiplies_86 rfl (by omega) (by omega) ?_
              rw [hL_uT (by omega), hq3]
              refine g_lmul dX7_multiplies_87 rfl ⟨by omega, by omega⟩ ?_
              refine g_callvV dX7_multiplies_88 tm_7_320 rfl ⟨rfl, rfl⟩ rfl (Nat.le_of_ble_eq_true rfl) (cm_tells (by omega) _ _ _ ⟨by have q5 := mul_c rU ra; omega, by have q5 := mul_c rU ra; omega⟩ ⟨by omega, by omega⟩) (fun s88 h88 => ?_)
              obtain ⟨tz, tU, tW, rfl, hvt⟩ := h88
              refine g_aload_n dX7_multiplies_91 rfl ?_
              refine g_getA dX7_multiplies_92 tf_7_68 rfl rfl (mrf hf rfl) ?_
              refine g_iload_n dX7_multiplies_95 rfl ?_
              refine g_ialdN (q.1) dX7_multiplies_96 rfl (by omega) (by omega) ?_
              rw [uT_uT, hI_uT (by omega)]
              refine g_istore_n dX7_multiplies_97 (by decide) rfl ?_
              refine g_goto (tgt := 13) dX7_multiplies_98 (by decide) ?_
              refine ih _ _ _ _ _ hk (fun a ha => hn a (by simp [ha])) (fun a ha => ht a (by simp [ha])) hvt (nrm_ok (by omega)) (nrm_nO _ _) ?_
              rw [← hF]
              congr 1
              unfold prodS1 ceM
              rw [e2]
              dsimp only
              first
                | (rw [if_pos ⟨by omega, by omega⟩]; rfl)
                | (rw [if_neg (by omega)]; rfl)
            · obtain ⟨u2, e3, r3⟩ := ht1 c31 (by omega)
              rw [e2] at e3
              cases e3
              have q4 := mul_p rW (y := u) ⟨r3, by omega⟩
              refine g_aload_n dX7_multiplies_43 rfl ?_
              refine g_aload_n dX7_multiplies_44 rfl ?_
              refine g_getL dX7_multiplies_45 tf_7_255 rfl rfl ?_
              rw [hL_uT_u ⟨by omega, by omega⟩]
              refine g_aload_n dX7_multiplies_48 rfl ?_
              refine g_getL dX7_multiplies_49 tf_7_259 rfl rfl ?_
              rw [hL_uT_w ⟨by omega, by omega⟩]
              refine g_aload_n dX7_multiplies_52 rfl ?_
              refine g_getA dX7_multiplies_53 tf_7_120 rfl rfl (mrf hf rfl) ?_
              refine g_iload_n dX7_multiplies_56 rfl ?_
              refine g_laldN (q.1) dX7_multiplies_57 rfl (by omega) (by omega) ?_
              rw [hL_uT (by omega), hq2]
              refine g_lmul dX7_multiplies_58 rfl ⟨by omega, by omega⟩ ?_
              refine g_callvV dX7_multiplies_59 tm_7_320 rfl ⟨rfl, rfl⟩ rfl (Nat.le_of_ble_eq_true rfl) (cm_tells (by omega) _ _ _ ⟨by omega, by omega⟩ ⟨by omega, by omega⟩) (fun s59 h59 => ?_)
              obtain ⟨tz, tU, tW, rfl, hvt⟩ := h59
              refine g_goto (tgt := 91) dX7_multiplies_62 (by decide) ?_
              refine g_aload_n dX7_multiplies_91 rfl ?_
              refine g_getA dX7_multiplies_92 tf_7_68 rfl rfl (mrf hf rfl) ?_
              refine g_iload_n dX7_multiplies_95 rfl ?_
              refine g_ialdN (q.1) dX7_multiplies_96 rfl (by omega) (by omega) ?_
              rw [uT_uT, hI_uT (by omega)]
              refine g_istore_n dX7_multiplies_97 (by decide) rfl ?_
              refine g_goto (tgt := 13) dX7_multiplies_98 (by decide) ?_
              refine ih _ _ _ _ _ hk (fun a ha => hn a (by simp [ha])) (fun a ha => ht a (by simp [ha])) hvt (nrm_ok (by omega)) (nrm_nO _ _) ?_
              rw [← hF]
              congr 1
              unfold prodS1 ceM
              rw [e2]
              dsimp only
              first
                | (rw [if_pos ⟨by omega, by omega⟩]; rfl)
                | (rw [if_neg (by omega)]; rfl)
  refine g_aload_n dX7_multiplies_0 rfl ?_
  refine g_lconst1 dX7_multiplies_1 ?_
  refine g_lconst1 dX7_multiplies_2 ?_
  refine g_callvV dX7_multiplies_3 tm_7_320 rfl ⟨rfl, rfl⟩ rfl (Nat.le_of_ble_eq_true rfl) (cm_tells (by omega) _ _ _ ⟨by omega, by omega⟩ ⟨by omega, by omega⟩) (fun s3 h3 => ?_)
  obtain ⟨tz, tU, tW, rfl, hvt⟩ := h3
  rw [show nrm 1 1 = vN 1 1 from nrm_1 ⟨by omega, by omega⟩] at hvt
  refine g_aload_n dX7_multiplies_6 rfl ?_
  refine g_getA dX7_multiplies_7 tf_7_65 rfl rfl (mrf hf rfl) ?_
  refine g_iload_n dX7_multiplies_10 rfl ?_
  refine g_ialdN (x) dX7_multiplies_11 rfl (by omega) (by omega) ?_
  rw [hI_uT (by omega)]
  refine g_istore_n dX7_multiplies_12 (by decide) rfl ?_
  exact loop l _ _ _ _ _ hl hn ht hvt ⟨by decide, by decide, by decide, by decide, by decide⟩ (by simp) hF

theorem cm_caps {D : Nat} (hD : 2 ≤ D) (σ : am_HS) (hf : σ.2.2 = mH) (x y : Nat) (hx : x < 3200) (hy : y < 3200) (hxy : hI σ 19 x = y) (u w : Int) (hv : vt (vN u w) (hI σ 36 y) (hL σ 37 y) (hL σ 38 y)) (hok : vok (vN u w)) (hnum : 0 ≤ hI σ 18 x ∧ hI σ 18 x ≤ 9999) : am_Do lm D mX7_caps σ [vR (some 0), vI (x : Int)] (qV fun s => ∃ z U W, s = uT σ z U W ∧ vt (capV (hI σ 17 x) (hI σ 18 x) (vN u w)) z U W) := by
  obtain ⟨hv1, hv2, hv3⟩ := hv
  dsimp only at hv2 hv3
  obtain ⟨ru, rw2⟩ := vokN hok
  have q1 := mul_b2 (x := hI σ 18 x) (M := 9999) ⟨by omega, by omega⟩ ⟨(by omega : (0:Int) ≤ w), rw2.2⟩
  obtain ⟨d, rfl⟩ : ∃ d, D = d + 1 := ⟨D - 1, by omega⟩
  refine am_enter rfl rfl (Nat.le_of_ble_eq_true rfl) ?_
  refine g_aload_n dX7_caps_0 rfl ?_
  refine g_getA dX7_caps_1 tf_7_65 rfl rfl (mrf hf rfl) ?_
  refine g_iload_n dX7_caps_4 rfl ?_
  refine g_ialdN (x) dX7_caps_5 rfl (by omega) (by omega) ?_
  rw [hxy]
  refine g_istore_n dX7_caps_6 (by decide) rfl ?_
  refine g_aload_n dX7_caps_7 rfl ?_
  refine g_getA dX7_caps_8 tf_7_120 rfl rfl (mrf hf rfl) ?_
  refine g_iload_n dX7_caps_11 rfl ?_
  refine g_laldN (y) dX7_caps_12 rfl (by omega) (by omega) ?_
  rw [hv2]
  refine g_aload_n dX7_caps_13 rfl ?_
  refine g_getA dX7_caps_14 tf_7_62 rfl rfl (mrf hf rfl) ?_
  refine g_iload_n dX7_caps_17 rfl ?_
  refine g_ialdN (x) dX7_caps_18 rfl (by omega) (by omega) ?_
  refine g_i2l dX7_caps_19 ?_
  refine g_aload_n dX7_caps_20 rfl ?_
  refine g_getA dX7_caps_21 tf_7_123 rfl rfl (mrf hf rfl) ?_
  refine g_iload_n dX7_caps_24 rfl ?_
  refine g_laldN (y) dX7_caps_25 rfl (by omega) (by omega) ?_
  rw [hv3]
  refine g_lmul dX7_caps_26 rfl ⟨by omega, by omega⟩ ?_
  refine g_lc_lt (tgt := 35) dX7_caps_27 dX7_caps_28 (by decide) (fun c28 => ?_) (fun c28 => ?_)
  · refine g_iconst dX7_caps_35 ⟨by decide, by decide⟩ ?_
    refine g_istore_n dX7_caps_36 (by decide) rfl ?_
    refine g_aload_n dX7_caps_37 rfl ?_
    refine g_getA dX7_caps_38 tf_7_59 rfl rfl (mrf hf rfl) ?_
    refine g_iload_n dX7_caps_41 rfl ?_
    refine g_ialdN (x) dX7_caps_42 rfl (by omega) (by omega) ?_
    refine g_bipush dX7_caps_43 (by decide) ?_
    refine g_icmp_ne (tgt := 65) dX7_caps_45 (by decide) (fun c45 => ?_) (fun c45 => ?_)
    · refine g_iload_n dX7_caps_65 rfl ?_
      refine g_if_eq (tgt := 84) dX7_caps_66 (by decide) (fun c66 => ?_) (fun c66 => ?_)
      · try (exfalso; omega)
        refine g_aload_n dX7_caps_84 rfl ?_
        refine g_aload_n dX7_caps_85 rfl ?_
        refine g_getA dX7_caps_86 tf_7_120 rfl rfl (mrf hf rfl) ?_
        refine g_iload_n dX7_caps_89 rfl ?_
        refine g_laldN (y) dX7_caps_90 rfl (by omega) (by omega) ?_
        rw [hv2]
        refine g_aload_n dX7_caps_91 rfl ?_
        refine g_getA dX7_caps_92 tf_7_123 rfl rfl (mrf hf rfl) ?_
        refine g_iload_n dX7_caps_95 rfl ?_
        refine g_laldN (y) dX7_caps_96 rfl (by omega) (by omega) ?_
        rw [hv3]
        refine g_callvV dX7_caps_97 tm_7_320 rfl ⟨rfl, rfl⟩ rfl (Nat.le_of_ble_eq_true rfl) (cm_tells (by omega) _ _ _ ⟨by omega, by omega⟩ ⟨by omega, by omega⟩) (fun s97 h97 => ?_)
        obtain ⟨tz, tU, tW, rfl, hvt⟩ := h97
        rw [nrm_same hok] at hvt
        refine g_return dX7_caps_100 rfl ⟨rfl, ?_⟩
        refine ⟨tz, tU, tW, rfl, ?_⟩
        unfold capV
        dsimp only
        first
          | (rw [if_pos (by omega), if_pos (by omega)]; exact hvt)
          | (rw [if_pos (by omega), if_neg (by omega)]; exact hvt)
          | (rw [if_neg (by omega), if_pos (by omega)]; exact hvt)
          | (rw [if_neg (by omega), if_neg (by omega)]; exact hvt)
      · exfalso; omega
    · refine g_aload_n dX7_caps_48 rfl ?_
      refine g_iload_n dX7_caps_49 rfl ?_
      refine g_if_eq (tgt := 57) dX7_caps_50 (by decide) (fun c50 => ?_) (fun c50 => ?_)
      · try (exfalso; omega)
        refine g_lconst0 dX7_caps_57 ?_
        refine g_lconst1 dX7_caps_58 ?_
        refine g_callvV dX7_caps_59 tm_7_320 rfl ⟨rfl, rfl⟩ rfl (Nat.le_of_ble_eq_true rfl) (cm_tells (by omega) _ _ _ ⟨by omega, by omega⟩ ⟨by omega, by omega⟩) (fun s59 h59 => ?_)
        obtain ⟨tz, tU, tW, rfl, hvt⟩ := h59
        first | rw [show nrm 0 1 = vN 0 1 from nrm_1 ⟨by omega, by omega⟩] at hvt | rw [show nrm 1 1 = vN 1 1 from nrm_1 ⟨by omega, by omega⟩] at hvt
        refine g_goto (tgt := 100) dX7_caps_62 (by decide) ?_
        refine g_return dX7_caps_100 rfl ⟨rfl, ?_⟩
        refine ⟨tz, tU, tW, rfl, ?_⟩
        unfold capV
        dsimp only
        first
          | (rw [if_pos (by omega), if_pos (by omega)]; exact hvt)
          | (rw [if_pos (by omega), if_neg (by omega)]; exact hvt)
          | (rw [if_neg (by omega), if_pos (by omega)]; exact hvt)
          | (rw [if_neg (by omega), if_neg (by omega)]; exact hvt)
      · exfalso; omega
  · refine g_iconst dX7_caps_31 ⟨by decide, by decide⟩ ?_
    refine g_goto (tgt := 36) dX7_caps_32 (by decide) ?_
    refine g_istore_n dX7_caps_36 (by decide) rfl ?_
    refine g_aload_n dX7_caps_37 rfl ?_
    refine g_getA dX7_caps_38 tf_7_59 rfl rfl (mrf hf rfl) ?_
    refine g_iload_n dX7_caps_41 rfl ?_
    refine g_ialdN (x) dX7_caps_42 rfl (by omega) (by omega) ?_
    refine g_bipush dX7_caps_43 (by decide) ?_
    refine g_icmp_ne (tgt := 65) dX7_caps_45 (by decide) (fun c45 => ?_) (fun c45 => ?_)
    · refine g_iload_n dX7_caps_65 rfl ?_
      refine g_if_eq (tgt := 84) dX7_caps_66 (by decide) (fun c66 => ?_) (fun c66 => ?_)
      · exfalso; omega
      · try (exfalso; omega)
        refine g_aload_n dX7_caps_69 rfl ?_
        refine g_aload_n dX7_caps_70 rfl ?_
        refine g_getA dX7_caps_71 tf_7_62 rfl rfl (mrf hf rfl) ?_
        refine g_iload_n dX7_caps_74 rfl ?_
        refine g_ialdN (x) dX7_caps_75 rfl (by omega) (by omega) ?_
        refine g_i2l dX7_caps_76 ?_
        refine g_lconst1 dX7_caps_77 ?_
        refine g_callvV dX7_caps_78 tm_7_320 rfl ⟨rfl, rfl⟩ rfl (Nat.le_of_ble_eq_true rfl) (cm_tells (by omega) _ _ _ ⟨by omega, by omega⟩ ⟨by omega, by omega⟩) (fun s78 h78 => ?_)
        obtain ⟨tz, tU, tW, rfl, hvt⟩ := h78
        rw [nrm_1 ⟨by omega, by omega⟩] at hvt
        refine g_goto (tgt := 100) dX7_caps_81 (by decide) ?_
        refine g_return dX7_caps_100 rfl ⟨rfl, ?_⟩
        refine ⟨tz, tU, tW, rfl, ?_⟩
        unfold capV
        dsimp only
        first
          | (rw [if_pos (by omega), if_pos (by omega)]; exact hvt)
          | (rw [if_pos (by omega), if_neg (by omega)]; exact hvt)
          | (rw [if_neg (by omega), if_pos (by omega)]; exact hvt)
          | (rw [if_neg (by omega), if_neg (by omega)]; exact hvt)
    · refine g_aload_n dX7_caps_48 rfl ?_
      refine g_iload_n dX7_caps_49 rfl ?_
      refine g_if_eq (tgt := 57) dX7_caps_50 (by decide) (fun c50 => ?_) (fun c50 => ?_)
      · exfalso; omega
      · try (exfalso; omega)
        refine g_lconst1 dX7_caps_53 ?_
        refine g_goto (tgt := 58) dX7_caps_54 (by decide) ?_
        refine g_lconst1 dX7_caps_58 ?_
        refine g_callvV dX7_caps_59 tm_7_320 rfl ⟨rfl, rfl⟩ rfl (Nat.le_of_ble_eq_true rfl) (cm_tells (by omega) _ _ _ ⟨by omega, by omega⟩ ⟨by omega, by omega⟩) (fun s59 h59 => ?_)
        obtain ⟨tz, tU, tW, rfl, hvt⟩ := h59
        first | rw [show nrm 0 1 = vN 0 1 from nrm_1 ⟨by omega, by omega⟩] at hvt | rw [show nrm 1 1 = vN 1 1 from nrm_1 ⟨by omega, by omega⟩] at hvt
        refine g_goto (tgt := 100) dX7_caps_62 (by decide) ?_
        refine g_return dX7_caps_100 rfl ⟨rfl, ?_⟩
        refine ⟨tz, tU, tW, rfl, ?_⟩
        unfold capV
        dsimp only
        first
          | (rw [if_pos (by omega), if_pos (by omega)]; exact hvt)
          | (rw [if_pos (by omega), if_neg (by omega)]; exact hvt)
          | (rw [if_neg (by omega), if_pos (by omega)]; exact hvt)
          | (rw [if_neg (by omega), if_neg (by omega)]; exact hvt)

