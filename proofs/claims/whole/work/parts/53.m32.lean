/-! THE REFERENCE: reading parts, whole sums -/
theorem fnS_r (v : Int) : fnS v = 0 ∨ 4 ≤ fnS v ∧ fnS v ≤ 10 := by
  unfold fnS
  repeat' split
  all_goals omega
theorem PQ_up {oth n : Nat} {tx : Nat → Int} {f c i : Nat} {σ : am_HS} {r : PR} {z : Int} {s : am_HS} (h : PQ oth n tx f c i σ r z s) : PQ oth n tx (f + 1) c i σ r z s := by
  obtain ⟨h1, h2, h3⟩ := h
  refine ⟨h1, h2, ?_⟩
  rcases r with g | q
  · exact h3
  · obtain ⟨p1, p2, p3, p4, p5, c2, p6, p7, p8, p9, p10, p11⟩ := h3
    exact ⟨p1, p2, p3, p4, p5, c2, p6, p7, p8, NdP_up p9, p10, p11⟩
theorem one_ok {oth n f D1 : Nat} {tx : Nat → Int} {deep : Int} (hD : 3 ≤ D1) (hdp : 0 ≤ deep ∧ deep ≤ 8) (sm : Option (Nat → PR)) (hsm : ∀ D, D1 ≤ D → SmK oth n tx f D deep sm) : POK oth n tx (f + 1) (D1 + 2) mX7_one 2 deep (pOW sm (tkT tx n)) := by
  intro i c σ hx0 hi0 hc0 hb0
  refine am_enter rfl rfl (Nat.le_of_ble_eq_true rfl) ?_
  have hnn : n ≤ 600 := hx0.2.2.2.2.2.2
  have hoth : oth < 2 := hx0.2.2.2.2.2.1
  have hin := hi0.le
  have hf : σ.2.2 = mH := hx0.1
  have hw := hi0.w
  have hp := hi0
  have r0 : rI 0 := ⟨by decide, by decide⟩
  have r1 : rI 1 := ⟨by decide, by decide⟩
  generalize hR : pOW sm (tkT tx n) i = R
  unfold pOW at hR
  by_cases hd : (tkT tx n i).1 = 1
  · rw [if_pos hd] at hR
    have hv := hi0.v (by rw [hd]; decide)
    have hnum := tkT_num hd
    generalize hnu : (tkT tx n i).2 = v at *
    have rv : rI v := ⟨by omega, by omega⟩
    obtain rfl : Sum.inr (fun _ => vN v 1, i + 1) = R := hR
    refine g_aload_n dX7_one_0 rfl ?_
    refine g_getI dX7_one_1 tf_7_181 rfl rfl ?_
    refine g_iconst dX7_one_4 ⟨by decide, by decide⟩ ?_
    refine g_icmp_ne (tgt := 24) dX7_one_5 (by decide) (fun c5 => ?_) (fun c5 => ?_)
    · exfalso; omega
    · refine g_aload_n dX7_one_8 rfl ?_
      refine g_iconst dX7_one_9 ⟨by decide, by decide⟩ ?_
      refine g_aload_n dX7_one_10 rfl ?_
      refine g_getI dX7_one_11 tf_7_178 rfl rfl ?_
      rw [hv]
      refine g_callvI dX7_one_14 tm_7_213 rfl ⟨rfl, rfl⟩ rfl (Nat.le_of_ble_eq_true rfl) (cm_node (by omega) σ hf hx0.2.2.1 hc0 hoth (by omega) _ _) (fun z14 s14 h14 => ?_)
      obtain ⟨rfl, rfl⟩ := h14
      have f3 : PFr oth c σ (ndS σ (1600 * oth + c) c 0 v) := ndS_fr (by omega)
      have rg3 : rgM (ndS σ (1600 * oth + c) c 0 v) := ndS_rg hx0.2.1 (by omega) r0 rv
      have n17 : hI (ndS σ (1600 * oth + c) c 0 v) 17 (1600 * oth + c) = 0 := ndS_17 r0
      have n18 : hI (ndS σ (1600 * oth + c) c 0 v) 18 (1600 * oth + c) = v := ndS_18 rv
      have n19 : hI (ndS σ (1600 * oth + c) c 0 v) 19 (1600 * oth + c) = -1 := ndS_19
      have n20 : hI (ndS σ (1600 * oth + c) c 0 v) 20 (1600 * oth + c) = -1 := ndS_20
      have n22 : hI (ndS σ (1600 * oth + c) c 0 v) 22 (1600 * oth + c) = 0 := ndS_22
      have n36 : hI (ndS σ (1600 * oth + c) c 0 v) 0 36 = ((c + 1 : Nat) : Int) := ndS_36 (by omega)
      have n27 : hI (ndS σ (1600 * oth + c) c 0 v) 27 oth = hI σ 27 oth := ndS_o (by omega) (by omega)
      have hp3 : PFi tx n i (ndS σ (1600 * oth + c) c 0 v) := hi0.of (fun k hk => ndS_o (by omega) (by omega))
      have hx3 : PFx oth n tx (ndS σ (1600 * oth + c) c 0 v) := hx0.of f3 rg3
      generalize (ndS σ (1600 * oth + c) c 0 v) = s3 at *
      refine g_istore_n dX7_one_17 (by decide) rfl ?_
      refine g_aload_n dX7_one_18 rfl ?_
      refine g_callvV dX7_one_19 tm_7_200 rfl ⟨rfl, rfl⟩ rfl (Nat.le_of_ble_eq_true rfl) (cm_readsP (by omega) s3 hx3 hp3 (by rw [hd]; exact ⟨by decide, by decide⟩)) (fun s19 h19 => ?_)
      obtain ⟨w, hx4, hp4⟩ := h19
      refine g_iload_n dX7_one_22 rfl ?_
      refine g_ireturn dX7_one_23 (Or.inl rfl) ⟨_, rfl, ?_⟩
      have e : ∀ o k, ¬ (o = 0 ∧ 24 ≤ k ∧ k ≤ 27) → hI s19 o k = hI s3 o k := w.2
      refine ⟨hx4, f3.tr w.pf (Nat.le_refl _), hp4, Nat.lt_succ_self i, rfl, (e _ _ (by omega)).trans n20, (e _ _ (by omega)).trans n22, c + 1, (e _ _ (by omega)).trans n36, by omega, by show c + 1 ≤ 2 * (i + 1) + 1; omega, ⟨by omega, by omega, Or.inl ⟨(e _ _ (by omega)).trans n17, rfl, (by show 0 ≤ hI _ 18 _ ∧ hI _ 18 _ ≤ 9999; rw [e _ _ (by omega), n18]; omega), (by show (fun _ => vN v 1) = fun _ => vN (hI _ 18 _) 1; rw [e _ _ (by omega), n18])⟩⟩, (NmP.nodeNo (by show hI _ 17 _ ≠ 1; rw [e _ _ (by omega), n17]; decide)).app (NmP.skip (Or.inl (by rw [hd]; decide))) (by omega) (Nat.le_refl _) (Nat.le_refl _) (by omega), ?_⟩
      rw [e _ _ (by omega), n27]
      exact ls_snoc (ls_nil Iff.rfl) (nk2 hd (by decide))
  · rw [if_neg hd] at hR
    by_cases h40 : tkT tx n i = (3, 40)
    · rw [if_pos h40] at hR
      rcases sm with _ | sum
      · have hd8 : deep = 8 := hsm D1 (Nat.le_refl _)
        obtain rfl : Sum.inl i = R := hR
        refine g_aload_n dX7_one_0 rfl ?_
        refine g_getI dX7_one_1 tf_7_181 rfl rfl ?_
        refine g_iconst dX7_one_4 ⟨by decide, by decide⟩ ?_
        refine g_icmp_ne (tgt := 24) dX7_one_5 (by decide) (fun c5 => ?_) (fun c5 => ?_)
        · refine g_aload_n dX7_one_24 rfl ?_
          refine g_bipush dX7_one_25 (by decide) ?_
          refine g_callvI dX7_one_27 tm_7_197 rfl ⟨rfl, rfl⟩ rfl (Nat.le_of_ble_eq_true rfl) (cm_isSignP (by omega) _ hp 40) (fun z27 s27 h27 => ?_)
          obtain ⟨h27, e27⟩ := h27
          obtain rfl := e27.symm
          have y27 : z27 = 1 := by rcases h27 with ⟨a, b⟩ | ⟨a, b⟩; exact a; exact absurd (h40) b
          clear h27
          refine g_if_eq (tgt := 75) dX7_one_30 (by decide) (fun c30 => ?_) (fun c30 => ?_)
          · exfalso; omega
          · refine g_iload_n dX7_one_33 rfl ?_
            refine g_bipush dX7_one_34 (by decide) ?_
            refine g_icmp_ne (tgt := 44) dX7_one_36 (by decide) (fun c36 => ?_) (fun c36 => ?_)
            · exfalso; omega
            · refine g_aload_n dX7_one_39 rfl ?_
              refine g_callvI dX7_one_40 tm_7_203 rfl ⟨rfl, rfl⟩ rfl (Nat.le_of_ble_eq_true rfl) (cm_faultsP (by omega) σ hx0 hi0) (fun z40 s40 hfa => ?_)
              refine g_ireturn dX7_one_43 (Or.inl rfl) ⟨_, rfl, ?_⟩
              exact ⟨hfa.2.1, hfa.2.2.1 c, hfa.1, hfa.2.2.2⟩
        · exfalso; omega
      · obtain ⟨hd8, hsum⟩ := hsm (D1 + 1) (by omega)
        refine g_aload_n dX7_one_0 rfl ?_
        refine g_getI dX7_one_1 tf_7_181 rfl rfl ?_
        refine g_iconst dX7_one_4 ⟨by decide, by decide⟩ ?_
        refine g_icmp_ne (tgt := 24) dX7_one_5 (by decide) (fun c5 => ?_) (fun c5 => ?_)
        · refine g_aload_n dX7_one_24 rfl ?_
          refine g_bipush dX7_one_25 (by decide) ?_
          refine g_callvI dX7_one_27 tm_7_197 rfl ⟨rfl, rfl⟩ rfl (Nat.le_of_ble_eq_true rfl) (cm_isSignP (by omega) _ hp 40) (fun z27 s27 h27 => ?_)
          obtain ⟨h27, e27⟩ := h27
          obtain rfl := e27.symm
          have y27 : z27 = 1 := by rcases h27 with ⟨a, b⟩ | ⟨a, b⟩; exact a; exact absurd (h40) b
          clear h27
          refine g_if_eq (tgt := 75) dX7_one_30 (by decide) (fun c30 => ?_) (fun c30 => ?_)
          · exfalso; omega
          · refine g_iload_n dX7_one_33 rfl ?_
            refine g_bipush dX7_one_34 (by decide) ?_
            refine g_icmp_ne (tgt := 44) dX7_one_36 (by decide) (fun c36 => ?_) (fun c36 => ?_)
            · refine g_aload_n dX7_one_44 rfl ?_
              refine g_callvV dX7_one_45 tm_7_200 rfl ⟨rfl, rfl⟩ rfl (Nat.le_of_ble_eq_true rfl) (cm_readsP (by omega) σ hx0 hi0 (tk3 h40)) (fun s45 h45 => ?_)
              obtain ⟨w50, hx50, hp50⟩ := h45
              have q36 : hI s45 0 36 = (c : Int) := (w50.2 0 36 (by omega)).trans hc0
              have q27 : hI s45 27 oth = hI σ 27 oth := w50.2 27 oth (by omega)
              refine g_aload_n dX7_one_48 rfl ?_
              refine g_iload_n dX7_one_49 rfl ?_
              refine g_iconst dX7_one_50 ⟨by decide, by decide⟩ ?_
              refine g_iadd dX7_one_51 rfl ⟨by omega, by omega⟩ ?_
              refine g_callvI dX7_one_52 tm_7_226 rfl ⟨rfl, rfl⟩ rfl (Nat.le_of_ble_eq_true rfl) (hsum (i + 1) c s45 hx50 hp50 q36 (by omega)) (fun z52 s52 h52 => ?_)
              have hx61 := h52.1
              have fr61 := h52.2.1
              have hf61 : s52.2.2 = mH := hx61.1
              have f2 : PFr oth c σ s52 := w50.pf.tr fr61 (Nat.le_refl _)
              rcases hone1 : sum (i + 1) with g | q
              · simp only [hone1] at hR
                rw [hone1] at h52
                obtain ⟨-, -, rfl, p29⟩ := h52
                obtain rfl : Sum.inl g = R := hR
                have h290 : 0 ≤ hI s52 0 29 := by omega
                refine g_istore_n dX7_one_55 (by decide) rfl ?_
                refine g_aload_n dX7_one_56 rfl ?_
                refine g_bipush dX7_one_57 (by decide) ?_
                refine g_callvV dX7_one_59 tm_7_229 rfl ⟨rfl, rfl⟩ rfl (Nat.le_of_ble_eq_true rfl) (cm_mustN (by omega) s52 h290 _) (fun s59 h59 => ?_)
                obtain rfl := h59
                refine g_aload_n dX7_one_62 rfl ?_
                refine g_callvI dX7_one_63 tm_7_193 rfl ⟨rfl, rfl⟩ rfl (Nat.le_of_ble_eq_true rfl) (cm_isFine (by omega) _) (fun z63 s63 h63 => ?_)
                obtain ⟨h63, e63⟩ := h63
                obtain rfl := e63.symm
                refine g_if_eq (tgt := 73) dX7_one_66 (by decide) (fun c66 => ?_) (fun c66 => ?_)
                · refine g_iconst dX7_one_73 ⟨by decide, by decide⟩ ?_
                  refine g_ireturn dX7_one_74 (Or.inl rfl) ⟨_, rfl, ?_⟩
                  exact ⟨hx61, f2, rfl, p29⟩
                · exfalso; omega
              · simp only [hone1] at hR
                rw [hone1] at h52
                obtain ⟨-, -, p1, p2, rfl, p4, p5, c2, p6, p7, p8, p9, p10, p11⟩ := h52
                refine g_istore_n dX7_one_55 (by decide) rfl ?_
                refine g_aload_n dX7_one_56 rfl ?_
                refine g_bipush dX7_one_57 (by decide) ?_
                refine g_callvV dX7_one_59 tm_7_229 rfl ⟨rfl, rfl⟩ rfl (Nat.le_of_ble_eq_true rfl) (cm_mustP (by omega) s52 hx61 p1 41) (fun s59 h59 => ?_)
                obtain ⟨hx90, h90⟩ := h59
                rcases h90 with ⟨hT, w, hp2⟩ | ⟨hT, fr2, h29⟩
                · rw [if_pos hT] at hR
                  obtain rfl : Sum.inr (q.1, q.2 + 1) = R := hR
                  have hp29 := hp2.2.2
                  refine g_aload_n dX7_one_62 rfl ?_
                  refine g_callvI dX7_one_63 tm_7_193 rfl ⟨rfl, rfl⟩ rfl (Nat.le_of_ble_eq_true rfl) (cm_isFine (by omega) _) (fun z63 s63 h63 => ?_)
                  obtain ⟨h63, e63⟩ := h63
                  obtain rfl := e63.symm
                  refine g_if_eq (tgt := 73) dX7_one_66 (by decide) (fun c66 => ?_) (fun c66 => ?_)
                  · exfalso; omega
                  · refine g_iload_n dX7_one_69 rfl ?_
                    refine g_goto (tgt := 74) dX7_one_70 (by decide) ?_
                    refine g_ireturn dX7_one_74 (Or.inl rfl) ⟨_, rfl, ?_⟩
                    have e : ∀ o k, ¬ (o = 0 ∧ 24 ≤ k ∧ k ≤ 27) → hI s59 o k = hI s52 o k := w.2
                    have et : tdM s59 = tdM s52 := Prod.ext (funext fun k => e 17 k (by omega)) (Prod.ext (funext fun k => e 18 k (by omega)) (Prod.ext (funext fun k => e 19 k (by omega)) (Prod.ext (funext fun k => e 20 k (by omega)) (funext fun k => e 22 k (by omega)))))
                    refine ⟨hx90, f2.tr w.pf (Nat.le_refl _), hp2, by show i < q.2 + 1; omega, rfl, (e _ _ (by omega)).trans p4, (e _ _ (by omega)).trans p5, c2, (e _ _ (by omega)).trans p6, p7, by show c2 ≤ 2 * (q.2 + 1) + 1; omega, by rw [et]; exact NdP_up p9, ?_, ?_⟩
                    · rw [et]
                      exact ((NmP.skip (nn3 h40)).app p10 (Nat.le_refl _) (by omega) (by omega) (by omega)).app (NmP.skip (nn3 hT)) (by omega) (Nat.le_refl _) (by omega) (by omega)
                    · rw [e _ _ (by omega)]
                      exact ls_snoc (ls_skip (by rw [p11, q27]) (by rw [h40]; exact ne3 (by decide))) (by rw [hT]; exact ne3 (by decide))
                · rw [if_neg hT] at hR
                  obtain rfl : Sum.inl q.2 = R := hR
                  have h290 : 0 ≤ hI s59 0 29 := by omega
                  refine g_aload_n dX7_one_62 rfl ?_
                  refine g_callvI dX7_one_63 tm_7_193 rfl ⟨rfl, rfl⟩ rfl (Nat.le_of_ble_eq_true rfl) (cm_isFine (by omega) _) (fun z63 s63 h63 => ?_)
                  obtain ⟨h63, e63⟩ := h63
                  obtain rfl := e63.symm
                  refine g_if_eq (tgt := 73) dX7_one_66 (by decide) (fun c66 => ?_) (fun c66 => ?_)
                  · refine g_iconst dX7_one_73 ⟨by decide, by decide⟩ ?_
                    refine g_ireturn dX7_one_74 (Or.inl rfl) ⟨_, rfl, ?_⟩
                    exact ⟨hx90, f2.tr (fr2 c) (Nat.le_refl _), rfl, h29⟩
                  · exfalso; omega
            · exfalso; omega
        · exfalso; omega
    · rw [if_neg h40] at hR
      by_cases hn2 : (tkT tx n i).1 = 2
      · rw [if_pos hn2] at hR
        have hv := hi0.v (by rw [hn2]; decide)
        have hnum := tkT_nam hn2
        have hTi : tkT tx n i = (2, (tkT tx n i).2) := Prod.ext hn2 rfl
        generalize hnu : (tkT tx n i).2 = v at *
        have rv : rI v := ⟨by omega, by omega⟩
        by_cases h0 : fnS v = 0
        · rw [if_pos h0] at hR
          obtain rfl : Sum.inr (fun env => env v, i + 1) = R := hR
          refine g_aload_n dX7_one_0 rfl ?_
          refine g_getI dX7_one_1 tf_7_181 rfl rfl ?_
          refine g_iconst dX7_one_4 ⟨by decide, by decide⟩ ?_
          refine g_icmp_ne (tgt := 24) dX7_one_5 (by decide) (fun c5 => ?_) (fun c5 => ?_)
          · refine g_aload_n dX7_one_24 rfl ?_
            refine g_bipush dX7_one_25 (by decide) ?_
            refine g_callvI dX7_one_27 tm_7_197 rfl ⟨rfl, rfl⟩ rfl (Nat.le_of_ble_eq_true rfl) (cm_isSignP (by omega) _ hp 40) (fun z27 s27 h27 => ?_)
            obtain ⟨h27, e27⟩ := h27
            obtain rfl := e27.symm
            have y27 : z27 = 0 := by rcases h27 with ⟨a, b⟩ | ⟨a, b⟩; exact absurd b (h40); exact a
            clear h27
            refine g_if_eq (tgt := 75) dX7_one_30 (by decide) (fun c30 => ?_) (fun c30 => ?_)
            · refine g_aload_n dX7_one_75 rfl ?_
              refine g_getI dX7_one_76 tf_7_181 rfl rfl ?_
              refine g_iconst dX7_one_79 ⟨by decide, by decide⟩ ?_
              refine g_icmp_eq (tgt := 88) dX7_one_80 (by decide) (fun c80 => ?_) (fun c80 => ?_)
              · refine g_aload_n dX7_one_88 rfl ?_
                refine g_getI dX7_one_89 tf_7_178 rfl rfl ?_
                rw [hv]
                refine g_callsI dX7_one_92 tm_7_233 rfl ⟨Nat.le_of_ble_eq_true rfl, rfl, rfl⟩ (Nat.le_of_ble_eq_true rfl) (cm_functionOf (by omega) σ v) (fun z92 s92 h92 => ?_)
                obtain ⟨rfl, e92⟩ := h92
                obtain rfl := e92.symm
                refine g_istore_n dX7_one_95 (by decide) rfl ?_
                refine g_aload_n dX7_one_96 rfl ?_
                refine g_iload_n dX7_one_97 rfl ?_
                refine g_if_ne (tgt := 105) dX7_one_98 (by decide) (fun c98 => ?_) (fun c98 => ?_)
                · exfalso; omega
                · refine g_iconst dX7_one_101 ⟨by decide, by decide⟩ ?_
                  refine g_goto (tgt := 106) dX7_one_102 (by decide) ?_
                  refine g_iload_n dX7_one_106 rfl ?_
                  refine g_if_ne (tgt := 117) dX7_one_107 (by decide) (fun c107 => ?_) (fun c107 => ?_)
                  · exfalso; omega
                  · refine g_aload_n dX7_one_110 rfl ?_
                    refine g_getI dX7_one_111 tf_7_178 rfl rfl ?_
                    rw [hv]
                    refine g_goto (tgt := 118) dX7_one_114 (by decide) ?_
                    refine g_callvI dX7_one_118 tm_7_213 rfl ⟨rfl, rfl⟩ rfl (Nat.le_of_ble_eq_true rfl) (cm_node (by omega) σ hf hx0.2.2.1 hc0 hoth (by omega) _ _) (fun z118 s118 h118 => ?_)
                    obtain ⟨rfl, rfl⟩ := h118
                    have f3 : PFr oth c σ (ndS σ (1600 * oth + c) c 1 v) := ndS_fr (by omega)
                    have rg3 : rgM (ndS σ (1600 * oth + c) c 1 v) := ndS_rg hx0.2.1 (by omega) r1 rv
                    have n17 : hI (ndS σ (1600 * oth + c) c 1 v) 17 (1600 * oth + c) = 1 := ndS_17 r1
                    have n18 : hI (ndS σ (1600 * oth + c) c 1 v) 18 (1600 * oth + c) = v := ndS_18 rv
                    have n19 : hI (ndS σ (1600 * oth + c) c 1 v) 19 (1600 * oth + c) = -1 := ndS_19
                    have n20 : hI (ndS σ (1600 * oth + c) c 1 v) 20 (1600 * oth + c) = -1 := ndS_20
                    have n22 : hI (ndS σ (1600 * oth + c) c 1 v) 22 (1600 * oth + c) = 0 := ndS_22
                    have n36 : hI (ndS σ (1600 * oth + c) c 1 v) 0 36 = ((c + 1 : Nat) : Int) := ndS_36 (by omega)
                    have n27 : hI (ndS σ (1600 * oth + c) c 1 v) 27 oth = hI σ 27 oth := ndS_o (by omega) (by omega)
                    have hp3 : PFi tx n i (ndS σ (1600 * oth + c) c 1 v) := hi0.of (fun k hk => ndS_o (by omega) (by omega))
                    have hx3 : PFx oth n tx (ndS σ (1600 * oth + c) c 1 v) := hx0.of f3 rg3
                    generalize (ndS σ (1600 * oth + c) c 1 v) = s3 at *
                    refine g_istore_n dX7_one_121 (by decide) rfl ?_
                    refine g_aload_n dX7_one_122 rfl ?_
                    refine g_callvV dX7_one_123 tm_7_200 rfl ⟨rfl, rfl⟩ rfl (Nat.le_of_ble_eq_true rfl) (cm_readsP (by omega) s3 hx3 hp3 (by rw [hn2]; exact ⟨by decide, by decide⟩)) (fun s123 h123 => ?_)
                    obtain ⟨w, hx4, hp4⟩ := h123
                    refine g_iload_n dX7_one_126 rfl ?_
                    refine g_if_ne (tgt := 134) dX7_one_127 (by decide) (fun c127 => ?_) (fun c127 => ?_)
                    · exfalso; omega
                    · refine g_iload_n dX7_one_130 rfl ?_
                      refine g_goto (tgt := 141) dX7_one_131 (by decide) ?_
                      refine g_ireturn dX7_one_141 (Or.inl rfl) ⟨_, rfl, ?_⟩
                      have e : ∀ o k, ¬ (o = 0 ∧ 24 ≤ k ∧ k ≤ 27) → hI s123 o k = hI s3 o k := w.2
                      refine ⟨hx4, f3.tr w.pf (Nat.le_refl _), hp4, Nat.lt_succ_self i, rfl, (e _ _ (by omega)).trans n20, (e _ _ (by omega)).trans n22, c + 1, (e _ _ (by omega)).trans n36, by omega, by show c + 1 ≤ 2 * (i + 1) + 1; omega, ⟨by omega, by omega, Or.inr (Or.inl ⟨(e _ _ (by omega)).trans n17, rfl, (by show (fun env : Int → Vl => env v) = fun env : Int → Vl => env (hI s123 18 (1600 * oth + c)); rw [e _ _ (by omega), n18])⟩)⟩, NmP.name ((e _ _ (by omega)).trans n17) ((e _ _ (by omega)).trans n18) hTi h0, ?_⟩
                      rw [e _ _ (by omega), n27]
                      exact ls_snoc (ls_nil Iff.rfl) (nk2 hn2 (by decide))
              · exfalso; omega
            · exfalso; omega
          · exfalso; omega
        · rw [if_neg h0] at hR
          have hfr := fnS_r v
          generalize hfo : fnS v = op at *
          have ro : rI op := ⟨by omega, by omega⟩
          have rv0 := rv
          refine g_aload_n dX7_one_0 rfl ?_
          refine g_getI dX7_one_1 tf_7_181 rfl rfl ?_
          refine g_iconst dX7_one_4 ⟨by decide, by decide⟩ ?_
          refine g_icmp_ne (tgt := 24) dX7_one_5 (by decide) (fun c5 => ?_) (fun c5 => ?_)
          · refine g_aload_n dX7_one_24 rfl ?_
            refine g_bipush dX7_one_25 (by decide) ?_
            refine g_callvI dX7_one_27 tm_7_197 rfl ⟨rfl, rfl⟩ rfl (Nat.le_of_ble_eq_true rfl) (cm_isSignP (by omega) _ hp 40) (fun z27 s27 h27 => ?_)
            obtain ⟨h27, e27⟩ := h27
            obtain rfl := e27.symm
            have y27 : z27 = 0 := by rcases h27 with ⟨a, b⟩ | ⟨a, b⟩; exact absurd b (h40); exact a
            clear h27
            refine g_if_eq (tgt := 75) dX7_one_30 (by decide) (fun c30 => ?_) (fun c30 => ?_)
            · refine g_aload_n dX7_one_75 rfl ?_
              refine g_getI dX7_one_76 tf_7_181 rfl rfl ?_
              refine g_iconst dX7_one_79 ⟨by decide, by decide⟩ ?_
              refine g_icmp_eq (tgt := 88) dX7_one_80 (by decide) (fun c80 => ?_) (fun c80 => ?_)
              · refine g_aload_n dX7_one_88 rfl ?_
                refine g_getI dX7_one_89 tf_7_178 rfl rfl ?_
                rw [hv]
                refine g_callsI dX7_one_92 tm_7_233 rfl ⟨Nat.le_of_ble_eq_true rfl, rfl, rfl⟩ (Nat.le_of_ble_eq_true rfl) (cm_functionOf (by omega) σ v) (fun z92 s92 h92 => ?_)
                obtain ⟨rfl, e92⟩ := h92
                obtain rfl := e92.symm
                rw [hfo]
                refine g_istore_n dX7_one_95 (by decide) rfl ?_
                refine g_aload_n dX7_one_96 rfl ?_
                refine g_iload_n dX7_one_97 rfl ?_
                refine g_if_ne (tgt := 105) dX7_one_98 (by decide) (fun c98 => ?_) (fun c98 => ?_)
                · refine g_iload_n dX7_one_105 rfl ?_
                  refine g_iload_n dX7_one_106 rfl ?_
                  refine g_if_ne (tgt := 117) dX7_one_107 (by decide) (fun c107 => ?_) (fun c107 => ?_)
                  · refine g_iconst dX7_one_117 ⟨by decide, by decide⟩ ?_
                    have rv : rI 0 := r0
                    refine g_callvI dX7_one_118 tm_7_213 rfl ⟨rfl, rfl⟩ rfl (Nat.le_of_ble_eq_true rfl) (cm_node (by omega) σ hf hx0.2.2.1 hc0 hoth (by omega) _ _) (fun z118 s118 h118 => ?_)
                    obtain ⟨rfl, rfl⟩ := h118
                    have f3 : PFr oth c σ (ndS σ (1600 * oth + c) c op 0) := ndS_fr (by omega)
                    have rg3 : rgM (ndS σ (1600 * oth + c) c op 0) := ndS_rg hx0.2.1 (by omega) ro rv
                    have n17 : hI (ndS σ (1600 * oth + c) c op 0) 17 (1600 * oth + c) = op := ndS_17 ro
                    have n18 : hI (ndS σ (1600 * oth + c) c op 0) 18 (1600 * oth + c) = 0 := ndS_18 rv
                    have n19 : hI (ndS σ (1600 * oth + c) c op 0) 19 (1600 * oth + c) = -1 := ndS_19
                    have n20 : hI (ndS σ (1600 * oth + c) c op 0) 20 (1600 * oth + c) = -1 := ndS_20
                    have n22 : hI (ndS σ (1600 * oth + c) c op 0) 22 (1600 * oth + c) = 0 := ndS_22
                    have n36 : hI (ndS σ (1600 * oth + c) c op 0) 0 36 = ((c + 1 : Nat) : Int) := ndS_36 (by omega)
                    have n27 : hI (ndS σ (1600 * oth + c) c op 0) 27 oth = hI σ 27 oth := ndS_o (by omega) (by omega)
                    have hp3 : PFi tx n i (ndS σ (1600 * oth + c) c op 0) := hi0.of (fun k hk => ndS_o (by omega) (by omega))
                    have hx3 : PFx oth n tx (ndS σ (1600 * oth + c) c op 0) := hx0.of f3 rg3
                    generalize (ndS σ (1600 * oth + c) c op 0) = s3 at *
                    refine g_istore_n dX7_one_121 (by decide) rfl ?_
                    refine g_aload_n dX7_one_122 rfl ?_
                    refine g_callvV dX7_one_123 tm_7_200 rfl ⟨rfl, rfl⟩ rfl (Nat.le_of_ble_eq_true rfl) (cm_readsP (by omega) s3 hx3 hp3 (by rw [hn2]; exact ⟨by decide, by decide⟩)) (fun s123 h123 => ?_)
                    obtain ⟨w, hx4, hp4⟩ := h123
                    refine g_iload_n dX7_one_126 rfl ?_
                    refine g_if_ne (tgt := 134) dX7_one_127 (by decide) (fun c127 => ?_) (fun c127 => ?_)
                    · refine g_aload_n dX7_one_134 rfl ?_
                      refine g_iload_n dX7_one_135 rfl ?_
                      refine g_iload_n dX7_one_136 rfl ?_
                      refine g_iload_n dX7_one_137 rfl ?_
                      refine g_callvI dX7_one_138 tm_7_236 rfl ⟨rfl, rfl⟩ rfl (Nat.le_of_ble_eq_true rfl) (list_ok (by omega) hdp (by omega) (by omega) sm (hsm D1 (Nat.le_refl _)) hb0 s123 (FnB.w (s := s3) (i1 := i) ⟨hx3, f3, n36, n17, n18, n19, n20, n22, NmP.nodeNo (by show hI _ 17 _ ≠ 1; rw [n17]; omega), ls_nil (by rw [n27])⟩ w hx4 (Nat.le_refl _) (Or.inr (by rw [hnu, hfo]; exact h0)) (nk2 hn2 (by decide))) hp4) (fun z138 s138 h138 => ?_)
                      refine g_ireturn dX7_one_141 (Or.inl rfl) ⟨_, rfl, ?_⟩
                      rw [← hR]
                      exact h138
                    · exfalso; omega
                  · exfalso; omega
                · exfalso; omega
              · exfalso; omega
            · exfalso; omega
          · exfalso; omega
      · rw [if_neg hn2] at hR
        obtain rfl : Sum.inl i = R := hR
        refine g_aload_n dX7_one_0 rfl ?_
        refine g_getI dX7_one_1 tf_7_181 rfl rfl ?_
        refine g_iconst dX7_one_4 ⟨by decide, by decide⟩ ?_
        refine g_icmp_ne (tgt := 24) dX7_one_5 (by decide) (fun c5 => ?_) (fun c5 => ?_)
        · refine g_aload_n dX7_one_24 rfl ?_
          refine g_bipush dX7_one_25 (by decide) ?_
          refine g_callvI dX7_one_27 tm_7_197 rfl ⟨rfl, rfl⟩ rfl (Nat.le_of_ble_eq_true rfl) (cm_isSignP (by omega) _ hp 40) (fun z27 s27 h27 => ?_)
          obtain ⟨h27, e27⟩ := h27
          obtain rfl := e27.symm
          have y27 : z27 = 0 := by rcases h27 with ⟨a, b⟩ | ⟨a, b⟩; exact absurd b (h40); exact a
          clear h27
          refine g_if_eq (tgt := 75) dX7_one_30 (by decide) (fun c30 => ?_) (fun c30 => ?_)
          · refine g_aload_n dX7_one_75 rfl ?_
            refine g_getI dX7_one_76 tf_7_181 rfl rfl ?_
            refine g_iconst dX7_one_79 ⟨by decide, by decide⟩ ?_
            refine g_icmp_eq (tgt := 88) dX7_one_80 (by decide) (fun c80 => ?_) (fun c80 => ?_)
            · exfalso; omega
            · refine g_aload_n dX7_one_83 rfl ?_
              refine g_callvI dX7_one_84 tm_7_203 rfl ⟨rfl, rfl⟩ rfl (Nat.le_of_ble_eq_true rfl) (cm_faultsP (by omega) σ hx0 hi0) (fun z84 s84 h84 => ?_)
              refine g_ireturn dX7_one_87 (Or.inl rfl) ⟨_, rfl, ?_⟩
              exact ⟨h84.2.1, h84.2.2.1 c, h84.1, h84.2.2.2⟩
          · exfalso; omega
        · exfalso; omega
theorem pO_ok {oth n : Nat} {tx : Nat → Int} : ∀ k, k ≤ 8 → (∀ D, 4 * k + 5 ≤ D → POK oth n tx (3 * k + 1) D mX7_one 2 ((8 - k : Nat) : Int) (pO (tkT tx n) k)) ∧ (∀ D, 4 * k + 7 ≤ D → POK oth n tx (3 * k + 3) D mX7_sum 0 ((8 - k : Nat) : Int) (pS (tkT tx n) k))
  | 0, _ => by
    have h1 : ∀ D, 4 * 0 + 5 ≤ D → POK oth n tx 1 D mX7_one 2 ((8 - 0 : Nat) : Int) (pO (tkT tx n) 0) := fun D hD => by
      obtain ⟨E, rfl⟩ : ∃ E, D = E + 2 := ⟨D - 2, by omega⟩
      exact one_ok (f := 0) (D1 := E) (by omega) ⟨by omega, by omega⟩ none (fun _ _ => rfl)
    refine ⟨h1, fun D hD => ?_⟩
    obtain ⟨E, rfl⟩ : ∃ E, D = E + 2 := ⟨D - 2, by omega⟩
    exact sum_ok (by omega) _ (product_ok (by omega) (by omega) _ (h1 E (by omega)))
  | k + 1, hk => by
    obtain ⟨-, h2⟩ := pO_ok (oth := oth) (n := n) (tx := tx) k (by omega)
    have e : ((8 - k : Nat) : Int) = ((8 - (k + 1) : Nat) : Int) + 1 := by omega
    rw [e] at h2
    have h1 : ∀ D, 4 * (k + 1) + 5 ≤ D → POK oth n tx (3 * (k + 1) + 1) D mX7_one 2 ((8 - (k + 1) : Nat) : Int) (pO (tkT tx n) (k + 1)) := fun D hD => by
      obtain ⟨E, rfl⟩ : ∃ E, D = E + 2 := ⟨D - 2, by omega⟩
      exact one_ok (f := 3 * k + 3) (D1 := E) (by omega) ⟨by omega, by omega⟩ (some (pS (tkT tx n) k)) (fun D' hD' => ⟨by omega, h2 D' (by omega)⟩)
    refine ⟨h1, fun D hD => ?_⟩
    obtain ⟨E, rfl⟩ : ∃ E, D = E + 2 := ⟨D - 2, by omega⟩
    exact sum_ok (by omega) _ (product_ok (by omega) (by omega) _ (h1 E (by omega)))

