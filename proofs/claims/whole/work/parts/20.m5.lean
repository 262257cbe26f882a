/-! THE REFERENCE: sums and products -/
theorem cm_plus {D : Nat} (hD : 2 ≤ D) (σ : am_HS) (U W a b : Int) (hU : hL σ 0 49 = U) (hW : hL σ 0 50 = W) (rU : -1000000000 ≤ U ∧ U ≤ 1000000000) (rW : 1 ≤ W ∧ W ≤ 1000000000) (ra : -1000000000 ≤ a ∧ a ≤ 1000000000) (rb : 1 ≤ b ∧ b ≤ 1000000000) : am_Do lm D mX7_plus σ [vR (some 0), vL a, vL b] (qV fun s => ∃ z U1 W1, s = uT σ z U1 W1 ∧ vt (nrm (U * b + a * W) (W * b)) z U1 W1) := by
  have q1 := mul_b2 rU ⟨(by omega : (0:Int) ≤ b), rb.2⟩
  have q2 := mul_b2 ra ⟨(by omega : (0:Int) ≤ W), rW.2⟩
  have q3 := mul_p rW rb
  obtain ⟨d, rfl⟩ : ∃ d, D = d + 1 := ⟨D - 1, by omega⟩
  refine am_enter rfl rfl (Nat.le_of_ble_eq_true rfl) ?_
  refine g_aload_n dX7_plus_0 rfl ?_
  refine g_aload_n dX7_plus_1 rfl ?_
  refine g_getL dX7_plus_2 tf_7_255 rfl rfl ?_
  rw [hU]
  refine g_lload_n dX7_plus_5 rfl ?_
  refine g_lmul dX7_plus_6 rfl ⟨by omega, by omega⟩ ?_
  refine g_lload_n dX7_plus_7 rfl ?_
  refine g_aload_n dX7_plus_8 rfl ?_
  refine g_getL dX7_plus_9 tf_7_259 rfl rfl ?_
  rw [hW]
  refine g_lmul dX7_plus_12 rfl ⟨by omega, by omega⟩ ?_
  refine g_ladd dX7_plus_13 rfl ⟨by omega, by omega⟩ ?_
  refine g_aload_n dX7_plus_14 rfl ?_
  refine g_getL dX7_plus_15 tf_7_259 rfl rfl ?_
  rw [hW]
  refine g_lload_n dX7_plus_18 rfl ?_
  refine g_lmul dX7_plus_19 rfl ⟨by omega, by omega⟩ ?_
  refine g_callvV dX7_plus_20 tm_7_320 rfl ⟨rfl, rfl⟩ rfl (Nat.le_of_ble_eq_true rfl) (cm_tells (by omega) _ _ _ ⟨by omega, by omega⟩ ⟨by omega, by omega⟩) (fun s20 h20 => ?_)
  obtain ⟨tz, tU, tW, rfl, hvt⟩ := h20
  refine g_return dX7_plus_23 rfl ⟨rfl, ?_⟩
  exact ⟨tz, tU, tW, rfl, hvt⟩

theorem cm_sums {D : Nat} (hD : 3 ≤ D) (σ : am_HS) (hf : σ.2.2 = mH) (x : Nat) (hx : x < 3200) (l : List (Nat × Vl)) (hl : Lk σ (hI σ 19 x) l) : am_Do lm D mX7_sums σ [vR (some 0), vI (x : Int)] (qV fun s => ∃ z U W, s = uT σ z U W ∧ vt (sumF (decide (hI σ 17 x = 2)) (vN 0 1) (l.map (ceM σ))) z U W) := by
  obtain ⟨d, rfl⟩ : ∃ d, D = d + 1 := ⟨D - 1, by omega⟩
  refine am_enter rfl rfl (Nat.le_of_ble_eq_true rfl) ?_
  generalize hF : sumF (decide (hI σ 17 x = 2)) (vN 0 1) (l.map (ceM σ)) = F
  have loop : ∀ (k : List (Nat × Vl)) (y : Int) (acc : Vl) (z U W : Int), Lk σ y k → vt acc z U W → vok acc → acc ≠ vO → sumF (decide (hI σ 17 x = 2)) acc (k.map (ceM σ)) = F → am_Go lm d 7 3 0 cX7_sums 13 [some (vR (some 0)), some (vI (x : Int)), some (vI y)] [] (uT σ z U W) (qV fun s => ∃ z U W, s = uT σ z U W ∧ vt F z U W) := by
    intro k
    induction k with
    | nil =>
      intro y acc z U W hk hv hok hnO hF
      have hy : y < 0 := hk
      have hF : acc = F := hF
      refine g_iload_n dX7_sums_13 rfl ?_
      refine g_if_lt (tgt := 90) dX7_sums_14 (by decide) (fun c14 => ?_) (fun c14 => ?_)
      · refine g_return dX7_sums_90 rfl ⟨rfl, ?_⟩
        exact ⟨z, U, W, rfl, hF ▸ hv⟩
      · exfalso; omega
    | cons q t ih =>
      intro y acc z U W hk hv hok hnO hF
      obtain ⟨rfl, ha, hq, hqok, hk⟩ := hk
      have hz := vt_z hv
      have hz2 := vt_z hq
      have hF : sumF (decide (hI σ 17 x = 2)) (sumS1 (decide (hI σ 17 x = 2)) acc (ceM σ q)) (t.map (ceM σ)) = F := hF
      refine g_iload_n dX7_sums_13 rfl ?_
      refine g_if_lt (tgt := 90) dX7_sums_14 (by decide) (fun c14 => ?_) (fun c14 => ?_)
      · exfalso; omega
      · refine g_aload_n dX7_sums_17 rfl ?_
        refine g_getI dX7_sums_18 tf_7_252 rfl rfl ?_
        rw [hI_uT_s ⟨by omega, by omega⟩]
        refine g_iconst dX7_sums_21 ⟨by decide, by decide⟩ ?_
        refine g_icmp_ne (tgt := 90) dX7_sums_22 (by decide) (fun c22 => ?_) (fun c22 => ?_)
        · have hX : acc = vX := (vt_n1 hv c22).resolve_left hnO
          refine g_return dX7_sums_90 rfl ⟨rfl, ?_⟩
          refine ⟨z, U, W, rfl, ?_⟩
          rw [← hF, hX, show sumS1 (decide (hI σ 17 x = 2)) vX (ceM σ q) = vX from by unfold sumS1; split <;> rfl, sumF_lost]
          rw [hX] at hv
          exact hv
        · have e1 := vt_1 hv (by omega)
          subst e1
          obtain ⟨rU, rW⟩ := vokN hok
          refine g_aload_n dX7_sums_25 rfl ?_
          refine g_getA dX7_sums_26 tf_7_117 rfl rfl (mrf hf rfl) ?_
          refine g_iload_n dX7_sums_29 rfl ?_
          refine g_ialdN (q.1) dX7_sums_30 rfl (by omega) (by omega) ?_
          rw [hI_uT (by omega)]
          refine g_iconst dX7_sums_31 ⟨by decide, by decide⟩ ?_
          refine g_icmp_ne (tgt := 80) dX7_sums_32 (by decide) (fun c32 => ?_) (fun c32 => ?_)
          · refine g_aload_n dX7_sums_80 rfl ?_
            refine g_getA dX7_sums_81 tf_7_68 rfl rfl (mrf hf rfl) ?_
            refine g_iload_n dX7_sums_84 rfl ?_
            refine g_ialdN (q.1) dX7_sums_85 rfl (by omega) (by omega) ?_
            rw [hI_uT (by omega)]
            refine g_istore_n dX7_sums_86 (by decide) rfl ?_
            refine g_goto (tgt := 13) dX7_sums_87 (by decide) ?_
            first
              | (refine ih _ _ _ _ _ hk hv hok hnO ?_
                 rw [← hF]
                 congr 1
                 rcases vt_n1 hq c32 with h | h <;> (unfold sumS1 ceM; rw [h]))
              | (refine ih _ _ _ _ _ hk hvt (nrm_ok (by have := mul_p rW rb; omega)) (nrm_nO _ _) ?_
                 rw [← hF]
                 congr 1
                 unfold sumS1 ceM
                 rw [e2]
                 dsimp only
                 unfold addV
                 dsimp only
                 first
                   | rw [if_pos ⟨by omega, by simpa using c52⟩]
                   | rw [if_neg (by rintro ⟨h1, h2⟩; first | omega | exact c52 (by simpa using h2))])
          · have e2 := vt_1 hq (by omega)
            rw [e2] at hqok
            obtain ⟨ra, rb⟩ := vokN hqok
            refine g_aload_n dX7_sums_35 rfl ?_
            refine g_aload_n dX7_sums_36 rfl ?_
            refine g_getA dX7_sums_37 tf_7_74 rfl rfl (mrf hf rfl) ?_
            refine g_iload_n dX7_sums_40 rfl ?_
            refine g_zaldN (q.1) dX7_sums_41 rfl (by omega) (by omega) ?_
            rw [hI_uT (by omega)]
            refine g_if_eq (tgt := 65) dX7_sums_42 (by decide) (fun c42 => ?_) (fun c42 => ?_)
            · refine g_aload_n dX7_sums_65 rfl ?_
              refine g_getA dX7_sums_66 tf_7_120 rfl rfl (mrf hf rfl) ?_
              refine g_iload_n dX7_sums_69 rfl ?_
              refine g_laldN (q.1) dX7_sums_70 rfl (by omega) (by omega) ?_
              try rw [hL_uT (by omega)]
              refine g_aload_n dX7_sums_71 rfl ?_
              refine g_getA dX7_sums_72 tf_7_123 rfl rfl (mrf hf rfl) ?_
              refine g_iload_n dX7_sums_75 rfl ?_
              refine g_laldN (q.1) dX7_sums_76 rfl (by omega) (by omega) ?_
              rw [hL_uT (by omega)]
              refine g_callvV dX7_sums_77 tm_7_357 rfl ⟨rfl, rfl⟩ rfl (Nat.le_of_ble_eq_true rfl) (cm_plus (by omega) _ U W _ _ (hL_uT_u ⟨by omega, by omega⟩) (hL_uT_w ⟨by omega, by omega⟩) rU rW ⟨by omega, by omega⟩ rb) (fun s77 h77 => ?_)
              obtain ⟨z2, U2, W2, rfl, hvt⟩ := h77
              rw [uT_uT]
              refine g_aload_n dX7_sums_80 rfl ?_
              refine g_getA dX7_sums_81 tf_7_68 rfl rfl (mrf hf rfl) ?_
              refine g_iload_n dX7_sums_84 rfl ?_
              refine g_ialdN (q.1) dX7_sums_85 rfl (by omega) (by omega) ?_
              rw [hI_uT (by omega)]
              refine g_istore_n dX7_sums_86 (by decide) rfl ?_
              refine g_goto (tgt := 13) dX7_sums_87 (by decide) ?_
              first
                | (refine ih _ _ _ _ _ hk hv hok hnO ?_
                   rw [← hF]
                   congr 1
                   rcases vt_n1 hq c32 with h | h <;> (unfold sumS1 ceM; rw [h]))
                | (refine ih _ _ _ _ _ hk hvt (nrm_ok (by have := mul_p rW rb; omega)) (nrm_nO _ _) ?_
                   rw [← hF]
                   congr 1
                   unfold sumS1 ceM
                   rw [e2]
                   dsimp only
                   unfold addV
                   dsimp only
                   first
                     | rw [if_pos ⟨by omega, by simpa using c52⟩]
                     | rw [if_neg (by rintro ⟨h1, h2⟩; first | omega | exact c52 (by simpa using h2))])
            · refine g_aload_n dX7_sums_45 rfl ?_
              refine g_getA dX7_sums_46 tf_7_59 rfl rfl (mrf hf rfl) ?_
              refine g_iload_n dX7_sums_49 rfl ?_
              refine g_ialdN (x) dX7_sums_50 rfl (by omega) (by omega) ?_
              rw [hI_uT (by omega)]
              refine g_iconst dX7_sums_51 ⟨by decide, by decide⟩ ?_
              refine g_icmp_ne (tgt := 65) dX7_sums_52 (by decide) (fun c52 => ?_) (fun c52 => ?_)
              · refine g_aload_n dX7_sums_65 rfl ?_
                refine g_getA dX7_sums_66 tf_7_120 rfl rfl (mrf hf rfl) ?_
                refine g_iload_n dX7_sums_69 rfl ?_
                refine g_laldN (q.1) dX7_sums_70 rfl (by omega) (by omega) ?_
                try rw [hL_uT (by omega)]
                refine g_aload_n dX7_sums_71 rfl ?_
                refine g_getA dX7_sums_72 tf_7_123 rfl rfl (mrf hf rfl) ?_
                refine g_iload_n dX7_sums_75 rfl ?_
                refine g_laldN (q.1) dX7_sums_76 rfl (by omega) (by omega) ?_
                rw [hL_uT (by omega)]
                refine g_callvV dX7_sums_77 tm_7_357 rfl ⟨rfl, rfl⟩ rfl (Nat.le_of_ble_eq_true rfl) (cm_plus (by omega) _ U W _ _ (hL_uT_u ⟨by omega, by omega⟩) (hL_uT_w ⟨by omega, by omega⟩) rU rW ⟨by omega, by omega⟩ rb) (fun s77 h77 => ?_)
                obtain ⟨z2, U2, W2, rfl, hvt⟩ := h77
                rw [uT_uT]
                refine g_aload_n dX7_sums_80 rfl ?_
                refine g_getA dX7_sums_81 tf_7_68 rfl rfl (mrf hf rfl) ?_
                refine g_iload_n dX7_sums_84 rfl ?_
                refine g_ialdN (q.1) dX7_sums_85 rfl (by omega) (by omega) ?_
                rw [hI_uT (by omega)]
                refine g_istore_n dX7_sums_86 (by decide) rfl ?_
                refine g_goto (tgt := 13) dX7_sums_87 (by decide) ?_
                first
                  | (refine ih _ _ _ _ _ hk hv hok hnO ?_
                     rw [← hF]
                     congr 1
                     rcases vt_n1 hq c32 with h | h <;> (unfold sumS1 ceM; rw [h]))
                  | (refine ih _ _ _ _ _ hk hvt (nrm_ok (by have := mul_p rW rb; omega)) (nrm_nO _ _) ?_
                     rw [← hF]
                     congr 1
                     unfold sumS1 ceM
                     rw [e2]
                     dsimp only
                     unfold addV
                     dsimp only
                     first
                       | rw [if_pos ⟨by omega, by simpa using c52⟩]
                       | rw [if_neg (by rintro ⟨h1, h2⟩; first | omega | exact c52 (by simpa using h2))])
              · refine g_aload_n dX7_sums_55 rfl ?_
                refine g_getA dX7_sums_56 tf_7_120 rfl rfl (mrf hf rfl) ?_
                refine g_iload_n dX7_sums_59 rfl ?_
                refine g_laldN (q.1) dX7_sums_60 rfl (by omega) (by omega) ?_
                rw [hL_uT (by omega)]
                refine g_lneg dX7_sums_61 rfl ⟨by omega, by omega⟩ ?_
                refine g_goto (tgt := 71) dX7_sums_62 (by decide) ?_
                try rw [hL_uT (by omega)]
                refine g_aload_n dX7_sums_71 rfl ?_
                refine g_getA dX7_sums_72 tf_7_123 rfl rfl (mrf hf rfl) ?_
                refine g_iload_n dX7_sums_75 rfl ?_
                refine g_laldN (q.1) dX7_sums_76 rfl (by omega) (by omega) ?_
                rw [hL_uT (by omega)]
                refine g_callvV dX7_sums_77 tm_7_357 rfl ⟨rfl, rfl⟩ rfl (Nat.le_of_ble_eq_true rfl) (cm_plus (by omega) _ U W _ _ (hL_uT_u ⟨by omega, by omega⟩) (hL_uT_w ⟨by omega, by omega⟩) rU rW ⟨by omega, by omega⟩ rb) (fun s77 h77 => ?_)
                obtain ⟨z2, U2, W2, rfl, hvt⟩ := h77
                rw [uT_uT]
                refine g_aload_n dX7_sums_80 rfl ?_
                refine g_getA dX7_sums_81 tf_7_68 rfl rfl (mrf hf rfl) ?_
                refine g_iload_n dX7_sums_84 rfl ?_
                refine g_ialdN (q.1) dX7_sums_85 rfl (by omega) (by omega) ?_
                rw [hI_uT (by omega)]
                refine g_istore_n dX7_sums_86 (by decide) rfl ?_
                refine g_goto (tgt := 13) dX7_sums_87 (by decide) ?_
                first
                  | (refine ih _ _ _ _ _ hk hv hok hnO ?_
                     rw [← hF]
                     congr 1
                     rcases vt_n1 hq c32 with h | h <;> (unfold sumS1 ceM; rw [h]))
                  | (refine ih _ _ _ _ _ hk hvt (nrm_ok (by have := mul_p rW rb; omega)) (nrm_nO _ _) ?_
                     rw [← hF]
                     congr 1
                     unfold sumS1 ceM
                     rw [e2]
                     dsimp only
                     unfold addV
                     dsimp only
                     first
                       | rw [if_pos ⟨by omega, by simpa using c52⟩]
                       | rw [if_neg (by rintro ⟨h1, h2⟩; first | omega | exact c52 (by simpa using h2))])
  refine g_aload_n dX7_sums_0 rfl ?_
  refine g_lconst0 dX7_sums_1 ?_
  refine g_lconst1 dX7_sums_2 ?_
  refine g_callvV dX7_sums_3 tm_7_320 rfl ⟨rfl, rfl⟩ rfl (Nat.le_of_ble_eq_true rfl) (cm_tells (by omega) _ _ _ ⟨by omega, by omega⟩ ⟨by omega, by omega⟩) (fun s3 h3 => ?_)
  obtain ⟨tz, tU, tW, rfl, hvt⟩ := h3
  rw [show nrm 0 1 = vN 0 1 from nrm_1 ⟨by omega, by omega⟩] at hvt
  refine g_aload_n dX7_sums_6 rfl ?_
  refine g_getA dX7_sums_7 tf_7_65 rfl rfl (mrf hf rfl) ?_
  refine g_iload_n dX7_sums_10 rfl ?_
  refine g_ialdN (x) dX7_sums_11 rfl (by omega) (by omega) ?_
  rw [hI_uT (by omega)]
  refine g_istore_n dX7_sums_12 (by decide) rfl ?_
  exact loop l _ _ _ _ _ hl hvt ⟨by decide, by decide, by decide, by decide, by decide⟩ (by simp) hF

