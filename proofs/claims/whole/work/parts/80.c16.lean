/-! THE CLASS: a part of the grammar, the walk -/
theorem cc1_readPart {D : Nat} {tx : Nat → Int} {n W b B r h h0 : Nat} {dp : Int} {sm : Option (Nat → PR)} (hD : 4 ≤ D) (hh : 1 ≤ h ∧ h0 ≤ h) (hdp : 0 ≤ dp ∧ dp ≤ 8) (hsm : (sm = none ∧ dp = 8) ∨ ∃ pr, sm = some pr ∧ dp < 8 ∧ KOK tx n W b B r 0 h0 (D - 1) mX1_readSum (dp + 1) pr) (hcl : KCA tx n W b B r h (D - 1) dp sm) : KOK tx n W b B r 0 h D mX1_readPart dp (pOW sm (tkT tx n)) := by
  intro i k σ hx hi hmn hk2
  obtain ⟨hf, hN, x3, ⟨xb, xr, xW⟩, x5⟩ := id hx
  obtain ⟨i1, i2, i3, i4, i5, i6⟩ := id hi
  have hB : B < 2 := by omega
  have hb1 : B < 2 := hB
  have hrB : cH b 4 2 = some (6 + B) := by
    show some (7 - b) = some (6 + B)
    rw [show 7 - b = 6 + B by omega]
  obtain ⟨a, v, hT⟩ : ∃ a v, tkT tx n i = (a, v) := ⟨_, _, rfl⟩
  have K := kn_r (hT ▸ CI.kn hx hi)
  have hlt : a ≠ 0 → i < W := fun z => CI.lt hx hi (by rw [hT]; exact z)
  have hno : a ≠ 3 → tkT tx n i ≠ (3, 45) := fun z w => by
    rw [hT] at w
    exact z (congrArg Prod.fst w)
  have hk6 := i6
  obtain ⟨d, rfl⟩ : ∃ d, D = d + 1 := ⟨D - 1, by omega⟩
  refine am_enter rfl rfl (Nat.le_of_ble_eq_true rfl) ?_
  refine g_aload_n dX1_readPart_0 rfl ?_
  refine g_getI dX1_readPart_1 tf_1_32 rfl rfl ?_
  refine g_if_lt (tgt := 8) dX1_readPart_4 (by decide) (fun c4 => ?_) (fun c4 => ?_)
  · refine g_aload_n dX1_readPart_8 rfl ?_
    refine g_getI dX1_readPart_9 tf_1_49 rfl rfl ?_
    refine g_sipush dX1_readPart_12 (by decide) ?_
    refine g_icmp_ne (tgt := 41) dX1_readPart_15 (by decide) (fun c15 => ?_) (fun c15 => ?_)
    · refine g_aload_n dX1_readPart_41 rfl ?_
      refine g_getI dX1_readPart_42 tf_1_49 rfl rfl ?_
      refine g_sipush dX1_readPart_45 (by decide) ?_
      refine g_icmp_ne (tgt := 103) dX1_readPart_48 (by decide) (fun c48 => ?_) (fun c48 => ?_)
      · have hpx : ∀ x : Int, (a, v) = (3, x) → a = 3 ∧ v = x := fun x w => ⟨congrArg Prod.fst w, congrArg Prod.snd w⟩
        by_cases h40 : hI σ 4 7 = 40 ∧ dp < 8
        · have hav : a = 3 ∧ v = 40 := by omega
          have hiW := hlt (by omega)
          have hno1 : tkT tx n i ≠ (3, 45) := fun w => by
            rw [hT] at w
            have := hpx 45 w
            omega
          have hTi : tkT tx n i = (3, 40) := by rw [hT, hav.1, hav.2]
          obtain ⟨pr, hpr, hd8, hks⟩ : ∃ pr, sm = some pr ∧ dp < 8 ∧ KOK tx n W b B r 0 h0 d mX1_readSum (dp + 1) pr := by
            rcases hsm with z | z
            · exact absurd z.2 (by omega)
            · exact z
          clear hsm
          subst hpr
          obtain ⟨t1, t2, t3⟩ := tn_ok hx hi hiW
          have tm := tnS_o (s := σ) (i := i + 1) (o := 6 + B) (j := 1) (by omega)
          refine g_aload_n dX1_readPart_103 rfl ?_
          refine g_iload_n dX1_readPart_104 rfl ?_
          refine g_callvV dX1_readPart_105 tm_1_103 rfl ⟨rfl, rfl⟩ rfl (Nat.le_of_ble_eq_true rfl) (cc1_openS (by omega) σ hf i (by omega) i1 i4 _ h40.2 h40.1) (fun s105 h105 => ?_)
          subst h105
          refine g_aload_n dX1_readPart_108 rfl ?_
          refine g_iload_n dX1_readPart_109 rfl ?_
          refine g_iconst dX1_readPart_110 ⟨by decide, by decide⟩ ?_
          refine g_iadd dX1_readPart_111 rfl ⟨by omega, by omega⟩ ?_
          refine g_callvV dX1_readPart_112 tm_1_68 rfl ⟨rfl, rfl⟩ rfl (Nat.le_of_ble_eq_true rfl) (hks (i + 1) k _ t1 t2 (by rw [tm]; exact hmn) (by omega)) (fun s112 h112 => ?_)
          have hQ := QD.pre t3 tm hmn (Or.inl (by rw [hTi]; decide)) hno1 (QD.up hh.2 h112)
          clear h112
          have e0 : pOW (some pr) (tkT tx n) i = match pr (i + 1) with
              | .inl f => .inl f
              | .inr q => if tkT tx n q.2 = (3, 41) then .inr (q.1, q.2 + 1) else .inl q.2 := by
            unfold pOW
            rw [hTi, if_neg (show ¬ ((3 : Int), (40 : Int)).1 = 1 by decide), if_pos rfl]
            show (match pr (i + 1) with | .inl f => _ | .inr q => _) = _
            rfl
          rcases hres : pr (i + 1) with f | ⟨e, j⟩
          · rw [hres] at hQ e0
            have hft : 0 ≤ hI s112 4 9 := by have := hQ.2.2.1; omega
            refine g_aload_n dX1_readPart_115 rfl ?_
            refine g_bipush dX1_readPart_116 (by decide) ?_
            refine g_callvV dX1_readPart_118 tm_1_65 rfl ⟨rfl, rfl⟩ rfl (Nat.le_of_ble_eq_true rfl) (cc1_takeN (by omega) s112 hft _) (fun s118 h118 => ?_)
            subst h118
            refine g_return dX1_readPart_121 rfl ⟨rfl, ?_⟩
            rw [e0]
            exact hQ
          · rw [hres] at hQ e0
            obtain ⟨k2, ci, _⟩ := hQ.2.2.2.2
            obtain ⟨a2, v2, hT2⟩ : ∃ a v, tkT tx n j = (a, v) := ⟨_, _, rfl⟩
            have K2 := kn_r (hT2 ▸ CI.kn hQ.1 ci)
            have hp2 : ∀ x : Int, (a2, v2) = (3, x) → a2 = 3 ∧ v2 = x := fun x w => ⟨congrArg Prod.fst w, congrArg Prod.snd w⟩
            have hj : a2 ≠ 0 → j < W := fun z => CI.lt hQ.1 ci (by rw [hT2]; exact z)
            refine g_aload_n dX1_readPart_115 rfl ?_
            refine g_bipush dX1_readPart_116 (by decide) ?_
            refine g_callvV dX1_readPart_118 tm_1_65 rfl ⟨rfl, rfl⟩ rfl (Nat.le_of_ble_eq_true rfl) (take_ok (by omega) s112 hQ.1 ci _ (fun _ => hj (by omega))) (fun s118 h118 => ?_)
            refine g_return dX1_readPart_121 rfl ⟨rfl, ?_⟩
            rw [e0]
            by_cases h41 : hI s112 4 7 = 41
            · have e1 := h118.1 h41
              have hT3 : tkT tx n j = (3, 41) := by rw [hT2, show a2 = 3 by omega, show v2 = 41 by omega]
              show QD tx n W b B r 0 h i k σ (if tkT tx n j = (3, 41) then .inr (e, j + 1) else .inl j) s118
              rw [if_pos hT3, e1]
              exact QD.post hQ (Or.inl (by rw [hT3]; decide)) (by rw [hT3]; decide) (hj (by omega))
            · have e1 := h118.2 h41
              have hT3 : ¬ tkT tx n j = (3, 41) := fun w => by
                rw [hT2] at w
                have := hp2 41 w
                omega
              show QD tx n W b B r 0 h i k σ (if tkT tx n j = (3, 41) then .inr (e, j + 1) else .inl j) s118
              rw [if_neg hT3, e1]
              exact QD.bad hQ hk2
        · obtain ⟨f1, f2, f3, f4⟩ := fl_ok hx hi (by omega)
          have hft : 0 ≤ hI (flS σ i) 4 9 := by have := f3.1; omega
          have e0 : pOW sm (tkT tx n) i = .inl i := by
            unfold pOW
            rw [hT, if_neg (show ¬ (a, v).1 = 1 by show ¬ a = 1; omega)]
            by_cases hq : (a, v) = ((3 : Int), (40 : Int))
            · have := hpx 40 hq
              rw [if_pos hq]
              rcases hsm with z | ⟨pr, z1, z2, _⟩
              · rw [z.1]
              · exact absurd (show hI σ 4 7 = 40 ∧ dp < 8 by omega) h40
            · rw [if_neg hq, if_neg (show ¬ (a, v).1 = 2 by show ¬ a = 2; omega)]
          refine g_aload_n dX1_readPart_103 rfl ?_
          refine g_iload_n dX1_readPart_104 rfl ?_
          refine g_callvV dX1_readPart_105 tm_1_103 rfl ⟨rfl, rfl⟩ rfl (Nat.le_of_ble_eq_true rfl) (cc1_openX (by omega) σ hf i (by omega) i1 _ (by omega)) (fun s105 h105 => ?_)
          subst h105
          refine g_aload_n dX1_readPart_108 rfl ?_
          refine g_iload_n dX1_readPart_109 rfl ?_
          refine g_iconst dX1_readPart_110 ⟨by decide, by decide⟩ ?_
          refine g_iadd dX1_readPart_111 rfl ⟨by omega, by omega⟩ ?_
          refine g_callvV dX1_readPart_112 tm_1_68 rfl ⟨rfl, rfl⟩ rfl (Nat.le_of_ble_eq_true rfl) (cc1_sumN (by omega) _ hft _) (fun s112 h112 => ?_)
          subst h112
          refine g_aload_n dX1_readPart_115 rfl ?_
          refine g_bipush dX1_readPart_116 (by decide) ?_
          refine g_callvV dX1_readPart_118 tm_1_65 rfl ⟨rfl, rfl⟩ rfl (Nat.le_of_ble_eq_true rfl) (cc1_takeN (by omega) _ hft _) (fun s118 h118 => ?_)
          subst h118
          refine g_return dX1_readPart_121 rfl ⟨rfl, ?_⟩
          rw [e0]
          exact QD.fl f2 (f4 0) f3
      · refine g_aload_n dX1_readPart_51 rfl ?_
        refine g_getI dX1_readPart_52 tf_1_52 rfl rfl ?_
        refine g_callsI dX1_readPart_55 tm_1_82 rfl ⟨Nat.le_of_ble_eq_true rfl, rfl, rfl⟩ (Nat.le_of_ble_eq_true rfl) (cc1_opOf (by omega) σ _) (fun z55 s55 h55 => ?_)
        obtain ⟨h55, e55⟩ := h55
        obtain rfl := e55.symm
        refine g_istore_n dX1_readPart_58 (by decide) rfl ?_
        refine g_iload_n dX1_readPart_59 rfl ?_
        refine g_iconst dX1_readPart_60 ⟨by decide, by decide⟩ ?_
        refine g_icmp_ne (tgt := 87) dX1_readPart_61 (by decide) (fun c61 => ?_) (fun c61 => ?_)
        · refine g_aload_n dX1_readPart_87 rfl ?_
          refine g_sipush dX1_readPart_88 (by decide) ?_
          refine g_callvV dX1_readPart_91 tm_1_65 rfl ⟨rfl, rfl⟩ rfl (Nat.le_of_ble_eq_true rfl) (take_ok (by omega) σ hx hi _ (fun _ => hlt (by omega))) (fun s91 h91 => ?_)
          have e91 := h91.1 (by omega)
          clear h91
          subst e91
          obtain ⟨t1, t2, t3⟩ := tn_ok hx hi (hlt (by omega))
          have hv : hI σ 4 8 = v := by omega
          have hfn : ¬ fnS v = 0 := fun z => c61 (by rw [h55, hv]; exact opC_1.2 z)
          have hz : z55 = fnS v + 2 := by
            rw [h55, hv]
            unfold opC
            rw [if_neg hfn]
          rw [hz]
          have hfr := fnS_r v
          refine g_aload_n dX1_readPart_94 rfl ?_
          refine g_iload_n dX1_readPart_95 rfl ?_
          refine g_iload_n dX1_readPart_96 rfl ?_
          refine g_callvV dX1_readPart_97 tm_1_99 rfl ⟨rfl, rfl⟩ rfl (Nat.le_of_ble_eq_true rfl) (hcl (i + 1) k _ (fnS v) t1 t2 (by rw [tnS_o (by omega)]; exact hmn) (by omega) (by omega)) (fun s97 h97 => ?_)
          refine g_goto (tgt := 121) dX1_readPart_100 (by decide) ?_
          refine g_return dX1_readPart_121 rfl ⟨rfl, ?_⟩
          have er : pOW sm (tkT tx n) i = pLi sm (tkT tx n) (fnS v) (i + 1) := by
            unfold pOW
            rw [hT, if_neg (show ¬ (a, v).1 = 1 by show ¬ a = 1; omega), if_neg (show ¬ (a, v) = (3, 40) from fun w => by have : a = 3 := congrArg Prod.fst w; omega), if_pos (show (a, v).1 = 2 by show a = 2; omega), if_neg (show ¬ fnS (a, v).2 = 0 from hfn)]
          rw [er]
          exact QD.pre t3 ((tnS_o (by omega))) hmn (Or.inr (by rw [hT]; exact hfn)) (hno (by omega)) h97
        · refine g_aload_n dX1_readPart_64 rfl ?_
          refine g_getA dX1_readPart_65 tf_1_18 rfl rfl (crf hf hrB) ?_
          refine g_iload_n dX1_readPart_68 rfl ?_
          refine g_aload_n dX1_readPart_69 rfl ?_
          refine g_getI dX1_readPart_70 tf_1_52 rfl rfl ?_
          refine g_iconst dX1_readPart_73 ⟨by decide, by decide⟩ ?_
          refine g_callvV dX1_readPart_74 tm_1_92 rfl ⟨rfl, rfl⟩ (lc_b hb1) (Nat.le_of_ble_eq_true rfl) (cc0_add (by omega) σ hf hB r k hN (by omega) hk6 (by omega) _ _ _) (fun s74 h74 => ?_)
          subst h55
          have A := ad_ok hx hi (by omega) (op := (opC (hI σ 4 8))) (ar := hI σ 4 8) (ta := 0) (show rI (opC (hI σ 4 8)) from ⟨by omega, by omega⟩) (hI_r _ _ _) ⟨by omega, by omega⟩
          have Am := adS_o (s := σ) (B := B) (k := k) (r := r) (op := (opC (hI σ 4 8))) (ar := hI σ 4 8) (ta := 0) (o := 6 + B) (j := 1) (by omega) (by omega) (by omega)
          rw [← h74] at A Am
          obtain ⟨ax, ai, af, ac, ae⟩ := A
          have K2 := kn_r (hT ▸ CI.kn ax ai)
          have h55 := (rfl : opC (hI σ 4 8) = opC (hI σ 4 8))
          refine g_aload_n dX1_readPart_77 rfl ?_
          refine g_sipush dX1_readPart_78 (by decide) ?_
          refine g_callvV dX1_readPart_81 tm_1_65 rfl ⟨rfl, rfl⟩ rfl (Nat.le_of_ble_eq_true rfl) (take_ok (by omega) s74 ax ai _ (fun _ => hlt (by omega))) (fun s81 h81 => ?_)
          refine g_goto (tgt := 100) dX1_readPart_84 (by decide) ?_
          refine g_goto (tgt := 121) dX1_readPart_100 (by decide) ?_
          refine g_return dX1_readPart_121 rfl ⟨rfl, ?_⟩
          have e81 := h81.1 (by omega)
          have hlt2 := hlt (by omega)
          rw [e81]
          have hfn : fnS v = 0 := by
            have hv : hI σ 4 8 = v := by omega
            rw [← hv]
            exact opC_1.1 (by omega)
          have er : pOW sm (tkT tx n) i = .inr (fun env => env v, i + 1) := by
            unfold pOW
            rw [hT, if_neg (show ¬ (a, v).1 = 1 by show ¬ a = 1; omega), if_neg (show ¬ (a, v) = (3, 40) from fun w => by have : a = 3 := congrArg Prod.fst w; omega), if_pos (show (a, v).1 = 2 by show a = 2; omega), if_pos (show fnS (a, v).2 = 0 from hfn)]
          rw [er]
          have hv : hI σ 4 8 = v := by omega
          rw [hv, opC_1.2 hfn] at ac
          refine QD.one ax ai af ae Am hmn (hno (by omega)) hlt2 (Cd.nam (v := v) ac hh.1) ?_
          exact NmP.name (by show (cdT s74 B k).1 = 1; rw [ac]) (by show (cdT s74 B k).2.1 = v; rw [ac]) (by rw [hT]; show (a, v) = (2, v); rw [show a = 2 by omega]) hfn
    · refine g_aload_n dX1_readPart_18 rfl ?_
      refine g_getA dX1_readPart_19 tf_1_18 rfl rfl (crf hf hrB) ?_
      refine g_iconst dX1_readPart_22 ⟨by decide, by decide⟩ ?_
      refine g_aload_n dX1_readPart_23 rfl ?_
      refine g_getI dX1_readPart_24 tf_1_52 rfl rfl ?_
      refine g_iconst dX1_readPart_27 ⟨by decide, by decide⟩ ?_
      refine g_callvV dX1_readPart_28 tm_1_92 rfl ⟨rfl, rfl⟩ (lc_b hb1) (Nat.le_of_ble_eq_true rfl) (cc0_add (by omega) σ hf hB r k hN (by omega) hk6 (by omega) _ _ _) (fun s28 h28 => ?_)
      have A := ad_ok hx hi (by omega) (op := 0) (ar := hI σ 4 8) (ta := 0) ⟨by omega, by omega⟩ (hI_r _ _ _) ⟨by omega, by omega⟩
      have Am := adS_o (s := σ) (B := B) (k := k) (r := r) (op := 0) (ar := hI σ 4 8) (ta := 0) (o := 6 + B) (j := 1) (by omega) (by omega) (by omega)
      rw [← h28] at A Am
      obtain ⟨ax, ai, af, ac, ae⟩ := A
      have K2 := kn_r (hT ▸ CI.kn ax ai)
      refine g_aload_n dX1_readPart_31 rfl ?_
      refine g_sipush dX1_readPart_32 (by decide) ?_
      refine g_callvV dX1_readPart_35 tm_1_65 rfl ⟨rfl, rfl⟩ rfl (Nat.le_of_ble_eq_true rfl) (take_ok (by omega) s28 ax ai _ (fun _ => hlt (by omega))) (fun s35 h35 => ?_)
      refine g_goto (tgt := 121) dX1_readPart_38 (by decide) ?_
      refine g_return dX1_readPart_121 rfl ⟨rfl, ?_⟩
      have e35 := h35.1 (by omega)
      have hlt2 := hlt (by omega)
      rw [e35]
      have er : pOW sm (tkT tx n) i = .inr (fun _ => vN v 1, i + 1) := by
        unfold pOW
        rw [hT, if_pos (show (a, v).1 = 1 by show a = 1; omega)]
      rw [er]
      have hv : hI σ 4 8 = v := by omega
      rw [hv] at ac
      refine QD.one ax ai af ae Am hmn (hno (by omega)) hlt2 (Cd.put ac ?_ hh.1) ?_
      · have := tkT_num (tx := tx) (n := n) (i := i) (by rw [hT]; show a = 1; omega)
        rw [hT] at this
        exact this
      · exact (NmP.nodeNo (t := tdC (cdT s28 B)) (by show (cdT s28 B k).1 ≠ 1; rw [ac]; show (0 : Int) ≠ 1; decide)).app (NmP.skip (Or.inl (by rw [hT]; show a ≠ 2; omega))) (by omega) (by omega) (by omega) (by omega)
  · exfalso; omega

