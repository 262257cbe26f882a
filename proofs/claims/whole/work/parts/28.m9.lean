/-! THE REFERENCE: nodes and rules, to the end -/
theorem EvF_n (s : am_HS) (x : Nat) (a b c : Int) : EvF s (uL (uL (uI s 36 x a) 37 x b) 38 x c) (fun y => y = x) (fun _ => False) := by
  refine ⟨rfl, fun o j => ?_, fun o j => ?_⟩
  · rw [hI_uL, hI_uL]
    by_cases h : o = 36 ∧ j = x
    · exact Or.inr (Or.inr (Or.inr (Or.inl h)))
    · exact Or.inl (hI_uI_n h)
  · by_cases h : o = 38 ∧ j = x
    · exact Or.inr (Or.inr (Or.inr ⟨Or.inr h.1, h.2⟩))
    · rw [hL_uL_n h]
      by_cases h2 : o = 37 ∧ j = x
      · exact Or.inr (Or.inr (Or.inr ⟨Or.inl h2.1, h2.2⟩))
      · rw [hL_uL_n h2]; exact Or.inl rfl
theorem EvF_m (s : am_HS) (r : Nat) (a b c : Int) : EvF s (uL (uL (uI s 33 r a) 34 r b) 35 r c) (fun _ => False) (fun j => j = r) := by
  refine ⟨rfl, fun o j => ?_, fun o j => ?_⟩
  · rw [hI_uL, hI_uL]
    by_cases h : o = 33 ∧ j = r
    · exact Or.inr (Or.inr (Or.inl h))
    · exact Or.inl (hI_uI_n h)
  · by_cases h : o = 35 ∧ j = r
    · exact Or.inr (Or.inr (Or.inl ⟨Or.inr h.1, h.2⟩))
    · rw [hL_uL_n h]
      by_cases h2 : o = 34 ∧ j = r
      · exact Or.inr (Or.inr (Or.inl ⟨Or.inl h2.1, h2.2⟩))
      · rw [hL_uL_n h2]; exact Or.inl rfl
theorem uT_3 (s : am_HS) (z U W : Int) : uL (uL (uI s 0 48 z) 0 49 U) 0 50 W = uT s z U W := rfl
set_option maxHeartbeats 1000000 in
theorem cm_nodes (N n : Nat) (lo hi ρ : Nat → Nat) (ev : Nat → Den) (td : TD) (p : Nat) (mk rvl : Nat → Vl) (hV : RV n ev mk rvl) (k r0 : Nat) (hr0 : r0 < n) (hk0 : ρ r0 = k) (hVS : VSt N n lo hi ρ ev td p mk rvl k) : ∀ f, NSt N n lo hi ρ ev td p mk rvl k r0 f := by
  intro f
  induction f with
  | zero => intro x hx e _ _ h; exact h.elim
  | succ f ih =>
    intro x hx e hx0 hx1 hnd D σ hD hR hS hMm
    obtain ⟨d, rfl⟩ : ∃ d, D = d + 1 := ⟨D - 1, by omega⟩
    refine am_enter rfl rfl (Nat.le_of_ble_eq_true rfl) ?_
    have henv : ∀ a, vok (envf mk rvl a) := fun a => by
      unfold envf
      split
      · exact hV.2.1 _
      · exact hV.2.2 _
    have hFok := Nd_ok hnd _ henv
    have htd : tdM σ = td := hR.2.2.2.1
    have e17 : hI σ 17 x = td.1 x := by rw [← htd]; rfl
    have e18 : hI σ 18 x = td.2.1 x := by rw [← htd]; rfl
    have hf := hS.1
    obtain ⟨hx2, hx3, hnd⟩ := hnd
    generalize hF : e (envf mk rvl) = F at hFok
    have tail : ∀ s, EvF σ s (fun y => (x ≤ y ∧ y < hx) ∨ rgk n lo hi ρ k y) (fun j => j < n ∧ ρ j < k) → RS0 p mk s → Mem n rvl s → vt (F) (hI s 0 48) (hL s 0 49) (hL s 0 50) → am_Go lm d 7 2 0 cX7_valueOf 89 [some (vR (some 0)), some (vI (x : Int))] [] s (qV fun s => EvF σ s (fun y => (x ≤ y ∧ y < hx) ∨ rgk n lo hi ρ k y) (fun j => j < n ∧ ρ j < k) ∧ RS0 p mk s ∧ Mem n rvl s ∧ vt (F) (hI s 0 48) (hL s 0 49) (hL s 0 50) ∧ vt F (hI s 36 x) (hL s 37 x) (hL s 38 x)) := by
      intro s hE hS hM hv
      have hf := hS.1
      refine g_aload_n dX7_valueOf_89 rfl ?_
      refine g_getA dX7_valueOf_90 tf_7_117 rfl rfl (mrf hf rfl) ?_
      refine g_iload_n dX7_valueOf_93 rfl ?_
      refine g_aload_n dX7_valueOf_94 rfl ?_
      refine g_getI dX7_valueOf_95 tf_7_252 rfl rfl ?_
      refine g_iastN (x) dX7_valueOf_98 rfl (by omega) (by omega) ?_
      refine g_aload_n dX7_valueOf_99 rfl ?_
      refine g_getA dX7_valueOf_100 tf_7_120 rfl rfl (mrf hf rfl) ?_
      refine g_iload_n dX7_valueOf_103 rfl ?_
      refine g_aload_n dX7_valueOf_104 rfl ?_
      refine g_getL dX7_valueOf_105 tf_7_255 rfl rfl ?_
      rw [show hL (uI s 36 x (hI s 0 48)) 0 49 = hL s 0 49 from rfl]
      refine g_lastN (x) dX7_valueOf_108 rfl (by omega) (by omega) ?_
      refine g_aload_n dX7_valueOf_109 rfl ?_
      refine g_getA dX7_valueOf_110 tf_7_123 rfl rfl (mrf hf rfl) ?_
      refine g_iload_n dX7_valueOf_113 rfl ?_
      refine g_aload_n dX7_valueOf_114 rfl ?_
      refine g_getL dX7_valueOf_115 tf_7_259 rfl rfl ?_
      rw [show hL (uL (uI s 36 x (hI s 0 48)) 37 x (hL s 0 49)) 0 50 = hL s 0 50 from hL_uL_n (by omega)]
      refine g_lastN (x) dX7_valueOf_118 rfl (by omega) (by omega) ?_
      refine g_return dX7_valueOf_119 rfl ⟨rfl, ?_⟩
      have hE2 := EvF_n s x (hI s 0 48) (hL s 0 49) (hL s 0 50)
      refine ⟨hE.trans hE2 (fun j h => h) (fun j h => h) (fun j h => Or.inl ⟨by omega, by omega⟩) (fun j h => h.elim), hS.of hE2, hM.out hE2, ?_, ?_⟩
      · rw [hI_uL, hI_uL, hI_uI_n (by omega), hL_uL_n (by omega), hL_uL_n (by omega), hL_uL_n (by omega), hL_uL_n (by omega)]
        exact hv
      · rw [hI_uL, hI_uL, hI_uI_e (hI_r _ _ _), hL_uL_n (by omega), hL_uL_e (hL_r _ _ _), hL_uL_e (hL_r _ _ _)]
        exact hv
    rcases hnd with hnd | hnd | hnd
    · obtain ⟨h0, hh, hnm, he⟩ := hnd
      have hF2 : F = vN (td.2.1 x) 1 := by rw [← hF, he]
      refine g_aload_n dX7_valueOf_0 rfl ?_
      refine g_getA dX7_valueOf_1 tf_7_59 rfl rfl (mrf hf rfl) ?_
      refine g_iload_n dX7_valueOf_4 rfl ?_
      refine g_ialdN (x) dX7_valueOf_5 rfl (by omega) (by omega) ?_
      rw [e17]
      refine g_if_ne (tgt := 24) dX7_valueOf_6 (by decide) (fun c6 => ?_) (fun c6 => ?_)
      · exfalso; omega
      · refine g_aload_n dX7_valueOf_9 rfl ?_
        refine g_aload_n dX7_valueOf_10 rfl ?_
        refine g_getA dX7_valueOf_11 tf_7_62 rfl rfl (mrf hf rfl) ?_
        refine g_iload_n dX7_valueOf_14 rfl ?_
        refine g_ialdN (x) dX7_valueOf_15 rfl (by omega) (by omega) ?_
        rw [e18]
        refine g_i2l dX7_valueOf_16 ?_
        refine g_lconst1 dX7_valueOf_17 ?_
        refine g_callvV dX7_valueOf_18 tm_7_320 rfl ⟨rfl, rfl⟩ rfl (Nat.le_of_ble_eq_true rfl) (cm_tells (by omega) σ _ _ ⟨by omega, by omega⟩ ⟨by omega, by omega⟩) (fun s18 h18 => ?_)
        obtain ⟨tz, tU, tW, rfl, hvt⟩ := h18
        rw [nrm_1 ⟨by omega, by omega⟩, ← hF2] at hvt
        refine g_goto (tgt := 89) dX7_valueOf_21 (by decide) ?_
        exact tail _ (EvF_uT _ _ _ _ _ _) (hS.of (EvF_uT σ tz tU tW (fun _ => False) (fun _ => False))) (hMm.out (EvF_uT σ tz tU tW (fun _ => False) (fun _ => False))) (vt_uT hvt hFok)
    · obtain ⟨h0, hh, hnm⟩ := hnd
      rcases hnm with ⟨w, hw, h18, he⟩ | ⟨r, hr, hok, h18, he⟩
      · have hF2 : F = mk w := by rw [← hF, he]; show envf mk rvl w = mk w; unfold envf; rw [if_pos hw]
        have hmw := hS.2.2.2.2 w hw
        refine g_aload_n dX7_valueOf_0 rfl ?_
        refine g_getA dX7_valueOf_1 tf_7_59 rfl rfl (mrf hf rfl) ?_
        refine g_iload_n dX7_valueOf_4 rfl ?_
        refine g_ialdN (x) dX7_valueOf_5 rfl (by omega) (by omega) ?_
        rw [e17]
        refine g_if_ne (tgt := 24) dX7_valueOf_6 (by decide) (fun c6 => ?_) (fun c6 => ?_)
        · refine g_aload_n dX7_valueOf_24 rfl ?_
          refine g_getA dX7_valueOf_25 tf_7_59 rfl rfl (mrf hf rfl) ?_
          refine g_iload_n dX7_valueOf_28 rfl ?_
          refine g_ialdN (x) dX7_valueOf_29 rfl (by omega) (by omega) ?_
          rw [e17]
          refine g_iconst dX7_valueOf_30 ⟨by decide, by decide⟩ ?_
          refine g_icmp_ne (tgt := 61) dX7_valueOf_31 (by decide) (fun c31 => ?_) (fun c31 => ?_)
          · exfalso; omega
          · refine g_aload_n dX7_valueOf_34 rfl ?_
            refine g_getA dX7_valueOf_35 tf_7_62 rfl rfl (mrf hf rfl) ?_
            refine g_iload_n dX7_valueOf_38 rfl ?_
            refine g_ialdN (x) dX7_valueOf_39 rfl (by omega) (by omega) ?_
            rw [e18]
            refine g_bipush dX7_valueOf_40 (by decide) ?_
            refine g_icmp_lt (tgt := 61) dX7_valueOf_42 (by decide) (fun c42 => ?_) (fun c42 => ?_)
            · exfalso; omega
            · refine g_aload_n dX7_valueOf_45 rfl ?_
              refine g_aload_n dX7_valueOf_46 rfl ?_
              refine g_getA dX7_valueOf_47 tf_7_62 rfl rfl (mrf hf rfl) ?_
              refine g_iload_n dX7_valueOf_50 rfl ?_
              refine g_ialdN (x) dX7_valueOf_51 rfl (by omega) (by omega) ?_
              rw [e18]
              refine g_bipush dX7_valueOf_52 (by decide) ?_
              refine g_isub dX7_valueOf_54 rfl ⟨by omega, by omega⟩ ?_
              rw [show td.2.1 x - 100 = (w : Int) by omega]
              refine g_callvV dX7_valueOf_55 tm_7_339 rfl ⟨rfl, rfl⟩ rfl (Nat.le_of_ble_eq_true rfl) (cm_workIs (by omega) σ hf hS.2.1 p w hS.2.2.1 hw hS.2.2.2.1 hmw.1) (fun s55 h55 => ?_)
              obtain ⟨tz, tU, tW, rfl, hvt⟩ := h55
              rw [hmw.2, ← hF2] at hvt
              refine g_goto (tgt := 89) dX7_valueOf_58 (by decide) ?_
              exact tail _ (EvF_uT _ _ _ _ _ _) (hS.of (EvF_uT σ tz tU tW (fun _ => False) (fun _ => False))) (hMm.out (EvF_uT σ tz tU tW (fun _ => False) (fun _ => False))) (vt_uT hvt hFok)
        · exfalso; omega
      · have hF2 : F = rvl r := by
          rw [← hF, he]
          show envf mk rvl (10 + r) = rvl r
          unfold envf
          rw [if_neg (by omega), show 10 + r - 10 = r by omega]
        refine g_aload_n dX7_valueOf_0 rfl ?_
        refine g_getA dX7_valueOf_1 tf_7_59 rfl rfl (mrf hf rfl) ?_
        refine g_iload_n dX7_valueOf_4 rfl ?_
        refine g_ialdN (x) dX7_valueOf_5 rfl (by omega) (by omega) ?_
        rw [e17]
        refine g_if_ne (tgt := 24) dX7_valueOf_6 (by decide) (fun c6 => ?_) (fun c6 => ?_)
        · refine g_aload_n dX7_valueOf_24 rfl ?_
          refine g_getA dX7_valueOf_25 tf_7_59 rfl rfl (mrf hf rfl) ?_
          refine g_iload_n dX7_valueOf_28 rfl ?_
          refine g_ialdN (x) dX7_valueOf_29 rfl (by omega) (by omega) ?_
          rw [e17]
          refine g_iconst dX7_valueOf_30 ⟨by decide, by decide⟩ ?_
          refine g_icmp_ne (tgt := 61) dX7_valueOf_31 (by decide) (fun c31 => ?_) (fun c31 => ?_)
          · exfalso; omega
          · refine g_aload_n dX7_valueOf_34 rfl ?_
            refine g_getA dX7_valueOf_35 tf_7_62 rfl rfl (mrf hf rfl) ?_
            refine g_iload_n dX7_valueOf_38 rfl ?_
            refine g_ialdN (x) dX7_valueOf_39 rfl (by omega) (by omega) ?_
            rw [e18]
            refine g_bipush dX7_valueOf_40 (by decide) ?_
            refine g_icmp_lt (tgt := 61) dX7_valueOf_42 (by decide) (fun c42 => ?_) (fun c42 => ?_)
            · refine g_aload_n dX7_valueOf_61 rfl ?_
              refine g_getA dX7_valueOf_62 tf_7_59 rfl rfl (mrf hf rfl) ?_
              refine g_iload_n dX7_valueOf_65 rfl ?_
              refine g_ialdN (x) dX7_valueOf_66 rfl (by omega) (by omega) ?_
              rw [e17]
              refine g_iconst dX7_valueOf_67 ⟨by decide, by decide⟩ ?_
              refine g_icmp_ne (tgt := 84) dX7_valueOf_68 (by decide) (fun c68 => ?_) (fun c68 => ?_)
              · exfalso; omega
              · refine g_aload_n dX7_valueOf_71 rfl ?_
                refine g_aload_n dX7_valueOf_72 rfl ?_
                refine g_getA dX7_valueOf_73 tf_7_62 rfl rfl (mrf hf rfl) ?_
                refine g_iload_n dX7_valueOf_76 rfl ?_
                refine g_ialdN (x) dX7_valueOf_77 rfl (by omega) (by omega) ?_
                rw [e18, h18]
                refine g_callvV dX7_valueOf_78 tm_7_249 rfl ⟨rfl, rfl⟩ rfl (Nat.le_of_ble_eq_true rfl) (hVS r hok.1 hok.2 d σ (by omega) hR hS hMm) (fun s78 h78 => ?_)
                obtain ⟨hE2, hS2, hM2, hv2⟩ := h78
                rw [← hF2] at hv2
                refine g_goto (tgt := 89) dX7_valueOf_81 (by decide) ?_
                exact tail _ (hE2.mono (fun y h => Or.inr (by obtain ⟨a, g1, g2, g3⟩ := h; exact ⟨a, g1, by have := hok.2; omega, g3⟩)) (fun j h => ⟨h.1, by have := hok.2; have := h.2; omega⟩)) hS2 hM2 hv2
            · exfalso; omega
        · exfalso; omega
    · obtain ⟨hop, hnm, cs, hc0, hc1, hc2, hc3, hch, he⟩ := hnd
      have hF2 : comb (td.1 x) (td.2.1 x) (cs.map (fun q => (q.2 (envf mk rvl), td.2.2.2.2 q.1, td.1 q.1))) = F := by rw [← hF, he]
      refine g_aload_n dX7_valueOf_0 rfl ?_
      refine g_getA dX7_valueOf_1 tf_7_59 rfl rfl (mrf hf rfl) ?_
      refine g_iload_n dX7_valueOf_4 rfl ?_
      refine g_ialdN (x) dX7_valueOf_5 rfl (by omega) (by omega) ?_
      rw [e17]
      refine g_if_ne (tgt := 24) dX7_valueOf_6 (by decide) (fun c6 => ?_) (fun c6 => ?_)
      · refine g_aload_n dX7_valueOf_24 rfl ?_
        refine g_getA dX7_valueOf_25 tf_7_59 rfl rfl (mrf hf rfl) ?_
        refine g_iload_n dX7_valueOf_28 rfl ?_
        refine g_ialdN (x) dX7_valueOf_29 rfl (by omega) (by omega) ?_
        rw [e17]
        refine g_iconst dX7_valueOf_30 ⟨by decide, by decide⟩ ?_
        refine g_icmp_ne (tgt := 61) dX7_valueOf_31 (by decide) (fun c31 => ?_) (fun c31 => ?_)
        · refine g_aload_n dX7_valueOf_61 rfl ?_
          refine g_getA dX7_valueOf_62 tf_7_59 rfl rfl (mrf hf rfl) ?_
          refine g_iload_n dX7_valueOf_65 rfl ?_
          refine g_ialdN (x) dX7_valueOf_66 rfl (by omega) (by omega) ?_
          rw [e17]
          refine g_iconst dX7_valueOf_67 ⟨by decide, by decide⟩ ?_
          refine g_icmp_ne (tgt := 84) dX7_valueOf_68 (by decide) (fun c68 => ?_) (fun c68 => ?_)
          · refine g_aload_n dX7_valueOf_84 rfl ?_
            refine g_iload_n dX7_valueOf_85 rfl ?_
            refine g_callvV dX7_valueOf_86 tm_7_342 rfl ⟨rfl, rfl⟩ rfl (Nat.le_of_ble_eq_true rfl) (cm_partsOf N n lo hi ρ ev td p mk rvl hV k r0 f hr0 hk0 ih x hx hx0 hx1 hx2 hx3 hop hnm cs hc0 hc1 hc2 hc3 hch d σ (by omega) hR hS hMm F hF2) (fun s86 h86 => ?_)
            obtain ⟨hE2, hS2, hM2, hv2⟩ := h86
            exact tail _ (hE2.mono (fun y h => h.elim (fun h => Or.inl ⟨by omega, h.2⟩) Or.inr) (fun j h => h)) hS2 hM2 hv2
          · exfalso; omega
        · exfalso; omega
      · exfalso; omega

set_option maxHeartbeats 1000000 in
theorem cm_valuesK (N n : Nat) (lo hi ρ : Nat → Nat) (ev : Nat → Den) (td : TD) (p : Nat) (mk rvl : Nat → Vl) (hV : RV n ev mk rvl) : ∀ k, VSt N n lo hi ρ ev td p mk rvl k := by
  intro k
  induction k with
  | zero => intro r _ h; exact absurd h (Nat.not_lt_zero _)
  | succ k ihk =>
    intro r hr hrk D σ hD hR hS hMm
    rcases Nat.lt_or_ge (ρ r) k with hlt | hge
    · exact ihk r hr hlt D σ (by omega) hR hS hMm
    have hk : ρ r = k := by omega
    obtain ⟨d, rfl⟩ : ∃ d, D = d + 1 := ⟨D - 1, by omega⟩
    refine am_enter rfl rfl (Nat.le_of_ble_eq_true rfl) ?_
    obtain ⟨hn12, hN2, hnow, htd, hbk, hdis⟩ := id hR
    obtain ⟨hroot, hnd⟩ := hbk r hr
    rw [hk] at hnd
    have hf := hS.1
    have hlo : lo r < 3200 := by have := hnd.1; have := hnd.2.1; omega
    have tail : ∀ s, EvF σ s (rgk n lo hi ρ (ρ r + 1)) (fun j => j < n ∧ ρ j < ρ r + 1) → RS0 p mk s → Mem n rvl s → 0 ≤ hI s 33 r → am_Go lm d 7 2 0 cX7_values 57 [some (vR (some 0)), some (vI (r : Int))] [] s (qV fun s => EvF σ s (rgk n lo hi ρ (ρ r + 1)) (fun j => j < n ∧ ρ j < ρ r + 1) ∧ RS0 p mk s ∧ Mem n rvl s ∧ vt (rvl r) (hI s 0 48) (hL s 0 49) (hL s 0 50)) := by
      intro s hE hS hM h0
      have hf := hS.1
      have hv := hM r hr h0
      refine g_aload_n dX7_values_57 rfl ?_
      refine g_aload_n dX7_values_58 rfl ?_
      refine g_getA dX7_values_59 tf_7_108 rfl rfl (mrf hf rfl) ?_
      refine g_iload_n dX7_values_62 rfl ?_
      refine g_ialdN (r) dX7_values_63 rfl (by omega) (by omega) ?_
      refine g_putI dX7_values_64 tf_7_252 rfl rfl rfl ?_
      refine g_aload_n dX7_values_67 rfl ?_
      refine g_aload_n dX7_values_68 rfl ?_
      refine g_getA dX7_values_69 tf_7_111 rfl rfl (mrf hf rfl) ?_
      refine g_iload_n dX7_values_72 rfl ?_
      refine g_laldN (r) dX7_values_73 rfl (by omega) (by omega) ?_
      rw [show hL (uI s 0 48 (hI s 33 r)) 34 r = hL s 34 r from rfl]
      refine g_putL dX7_values_74 tf_7_255 rfl rfl rfl ?_
      refine g_aload_n dX7_values_77 rfl ?_
      refine g_aload_n dX7_values_78 rfl ?_
      refine g_getA dX7_values_79 tf_7_114 rfl rfl (mrf hf rfl) ?_
      refine g_iload_n dX7_values_82 rfl ?_
      refine g_laldN (r) dX7_values_83 rfl (by omega) (by omega) ?_
      rw [show hL (uL (uI s 0 48 (hI s 33 r)) 0 49 (hL s 34 r)) 35 r = hL s 35 r from hL_uL_n (by omega)]
      refine g_putL dX7_values_84 tf_7_259 rfl rfl rfl ?_
      refine g_return dX7_values_87 rfl ⟨rfl, ?_⟩
      rw [uT_3]
      have hE2 := EvF_uT s (hI s 33 r) (hL s 34 r) (hL s 35 r) (fun _ => False) (fun _ => False)
      exact ⟨hE.trans hE2 (fun j h => h) (fun j h => h) (fun j h => h.elim) (fun j h => h.elim), hS.of hE2, hM.out hE2, vt_uT hv (hV.2.2 r)⟩
    refine g_aload_n dX7_values_0 rfl ?_
    refine g_getA dX7_values_1 tf_7_108 rfl rfl (mrf hf rfl) ?_
    refine g_iload_n dX7_values_4 rfl ?_
    refine g_ialdN (r) dX7_values_5 rfl (by omega) (by omega) ?_
    refine g_if_ge (tgt := 57) dX7_values_6 (by decide) (fun c6 => ?_) (fun c6 => ?_)
    · first
        | exact tail σ (EvF.rf _ _ _) hS hMm (by omega)
        | (have hE3 := EvF_m s24 r (hI s24 0 48) (hL s24 0 49) (hL s24 0 50)
           have hz := vt_z hv2
           refine tail _ (hE2.trans hE3 ?_ ?_ ?_ ?_) (hS2.of hE3) ?_ ?_
           · intro y h
             rcases h with h | h
             · exact ⟨r, hr, by omega, h⟩
             · obtain ⟨a, g1, g2, g3⟩ := h
               exact ⟨a, g1, by omega, g3⟩
           · intro j h; exact ⟨h.1, by have := h.2; omega⟩
           · intro j h; exact h.elim
           · intro j h; subst h; exact ⟨hr, by omega⟩
           · intro a ha h0
             by_cases e : a = r
             · subst e
               rw [hI_uL, hI_uL, hI_uI_e (hI_r _ _ _), hL_uL_n (by omega), hL_uL_e (hL_r _ _ _), hL_uL_e (hL_r _ _ _)]
               exact hv2
             · obtain ⟨w1, w2, w3⟩ := hE3.memo (y := a) e
               rw [w1, w2, w3]
               rw [w1] at h0
               exact hM2 a ha h0
           · rw [hI_uL, hI_uL, hI_uI_e (hI_r _ _ _)]; omega)
    · refine g_aload_n dX7_values_9 rfl ?_
      refine g_aload_n dX7_values_10 rfl ?_
      refine g_getA dX7_values_11 tf_7_83 rfl rfl (mrf hf rfl) ?_
      refine g_bipush dX7_values_14 (by decide) ?_
      refine g_aload_n dX7_values_16 rfl ?_
      refine g_getI dX7_values_17 tf_7_148 rfl rfl ?_
      rw [hnow]
      refine g_imul dX7_values_20 rfl ⟨by omega, by omega⟩ ?_
      refine g_iload_n dX7_values_21 rfl ?_
      refine g_iadd dX7_values_22 rfl ⟨by omega, by omega⟩ ?_
      refine g_ialdN (12 * N + r) dX7_values_23 rfl (by omega) (by omega) ?_
      rw [hroot]
      refine g_callvV dX7_values_24 tm_7_336 rfl ⟨rfl, rfl⟩ rfl (Nat.le_of_ble_eq_true rfl) (cm_nodes N n lo hi ρ ev td p mk rvl hV k r hr hk ihk 28 (lo r) (hi r) (ev r) (Nat.le_refl _) (Nat.le_refl _) hnd d σ (by omega) hR hS hMm) (fun s24 h24 => ?_)
      obtain ⟨hE2, hS2, hM2, hv2, -⟩ := h24
      have hf := hS2.1
      rw [← hV.1 r hr] at hv2
      refine g_aload_n dX7_values_27 rfl ?_
      refine g_getA dX7_values_28 tf_7_108 rfl rfl (mrf hf rfl) ?_
      refine g_iload_n dX7_values_31 rfl ?_
      refine g_aload_n dX7_values_32 rfl ?_
      refine g_getI dX7_values_33 tf_7_252 rfl rfl ?_
      refine g_iastN (r) dX7_values_36 rfl (by omega) (by omega) ?_
      refine g_aload_n dX7_values_37 rfl ?_
      refine g_getA dX7_values_38 tf_7_111 rfl rfl (mrf hf rfl) ?_
      refine g_iload_n dX7_values_41 rfl ?_
      refine g_aload_n dX7_values_42 rfl ?_
      refine g_getL dX7_values_43 tf_7_255 rfl rfl ?_
      rw [show hL (uI s24 33 r (hI s24 0 48)) 0 49 = hL s24 0 49 from rfl]
      refine g_lastN (r) dX7_values_46 rfl (by omega) (by omega) ?_
      refine g_aload_n dX7_values_47 rfl ?_
      refine g_getA dX7_values_48 tf_7_114 rfl rfl (mrf hf rfl) ?_
      refine g_iload_n dX7_values_51 rfl ?_
      refine g_aload_n dX7_values_52 rfl ?_
      refine g_getL dX7_values_53 tf_7_259 rfl rfl ?_
      rw [show hL (uL (uI s24 33 r (hI s24 0 48)) 34 r (hL s24 0 49)) 0 50 = hL s24 0 50 from hL_uL_n (by omega)]
      refine g_lastN (r) dX7_values_56 rfl (by omega) (by omega) ?_
      first
        | exact tail σ (EvF.rf _ _ _) hS hMm (by omega)
        | (have hE3 := EvF_m s24 r (hI s24 0 48) (hL s24 0 49) (hL s24 0 50)
           have hz := vt_z hv2
           refine tail _ (hE2.trans hE3 ?_ ?_ ?_ ?_) (hS2.of hE3) ?_ ?_
           · intro y h
             rcases h with h | h
             · exact ⟨r, hr, by omega, h⟩
             · obtain ⟨a, g1, g2, g3⟩ := h
               exact ⟨a, g1, by omega, g3⟩
           · intro j h; exact ⟨h.1, by have := h.2; omega⟩
           · intro j h; exact h.elim
           · intro j h; subst h; exact ⟨hr, by omega⟩
           · intro a ha h0
             by_cases e : a = r
             · subst e
               rw [hI_uL, hI_uL, hI_uI_e (hI_r _ _ _), hL_uL_n (by omega), hL_uL_e (hL_r _ _ _), hL_uL_e (hL_r _ _ _)]
               exact hv2
             · obtain ⟨w1, w2, w3⟩ := hE3.memo (y := a) e
               rw [w1, w2, w3]
               rw [w1] at h0
               exact hM2 a ha h0
           · rw [hI_uL, hI_uL, hI_uI_e (hI_r _ _ _)]; omega)
