/-! THE REFERENCE: reading all rules, the loop -/
theorem parse_loop {oth n d : Nat} {tx : Nat → Int} {σ : am_HS} (hD : 40 ≤ d) (hnn : n ≤ 600) : ∀ (m : Nat) (acc : List RU) (i : Nat) (cf : Nat → Nat) (s : am_HS) (o3 o4 : Option am_V), acc.length + m = 13 → PFx oth n tx s → PFi tx n i s → QFr oth σ s → RuI oth n tx acc cf s → hI s 0 36 = (cf acc.length : Int) → cf acc.length ≤ 2 * i + 1 → am_Go lm d 7 5 2 cX7_parses 46 [some (vR (some 0)), some (vI (n : Int)), some (vI 1), o3, o4] [] s (qI fun z u => PaQ oth n tx σ (pRA (tkT tx n) m acc i) z u) := by
  intro m
  induction m with
  | zero =>
    intro acc i cf s o3 o4 hm hx hp fr hR
    have := hR.2.1
    exfalso; omega
  | succ m ih =>
    intro acc i cf s o3 o4 hm hx hp fr hR h36 hcb
    have hl12 := hR.2.1
    have h23 := hR.2.2.1
    have hp29 := hp.2.2
    have hpl := hp.le
    have hw := hp.w
    have hoth : oth < 2 := hx.2.2.2.2.2.1
    have hf : s.2.2 = mH := hx.1
    have ho : hI s 0 43 = (oth : Int) := hx.2.2.1
    have hb := hx.2.1
    generalize hRR : pRA (tkT tx n) (m + 1) acc i = R
    unfold pRA at hRR
    obtain ⟨r, hr⟩ : ∃ r, acc.length = r := ⟨_, rfl⟩
    obtain ⟨c, hc⟩ : ∃ c, cf acc.length = c := ⟨_, rfl⟩
    rw [hr] at hRR h23 hl12 hm
    rw [hc] at h36 hcb
    have fbad : ¬ ((tkT tx n i).1 = 2 ∧ fnS (tkT tx n i).2 = 0 ∧ wkS (tkT tx n i).2 < 0 ∧ r ≠ 12) → ∀ (o3 o4 : Option am_V), am_Go lm d 7 5 2 cX7_parses 101 [some (vR (some 0)), some (vI (n : Int)), some (vI 1), o3, o4] [] s (qI fun z u => PaQ oth n tx σ (R) z u) := by
      intro hn o3 o4
      rw [if_neg hn] at hRR
      obtain rfl : Sum.inl i = R := hRR
      refine g_aload_n dX7_parses_101 rfl ?_
      refine g_callvI dX7_parses_102 tm_7_203 rfl ⟨rfl, rfl⟩ rfl (Nat.le_of_ble_eq_true rfl) (cm_faultsP (by omega) s hx hp) (fun z102 s102 h102 => ?_)
      obtain ⟨rfl, g1, g2, g3⟩ := h102
      refine g_istore dX7_parses_105 (by decide) rfl ?_
      refine g_goto (tgt := 46) dX7_parses_107 (by decide) ?_
      exact parse_bad hD _ i 1 (by omega) _ _ (fr.tr (g2 0).q) g1.2.1 g3
    by_cases hn2 : (tkT tx n i).1 = 2
    · have hv := hp.v (by rw [hn2]; decide)
      have hnum := tkT_nam hn2
      have hfr := fnS_r (tkT tx n i).2
      refine g_iload_n dX7_parses_46 rfl ?_
      refine g_if_eq (tgt := 241) dX7_parses_47 (by decide) (fun c47 => ?_) (fun c47 => ?_)
      · exfalso; omega
      · refine g_aload_n dX7_parses_50 rfl ?_
        refine g_callvI dX7_parses_51 tm_7_193 rfl ⟨rfl, rfl⟩ rfl (Nat.le_of_ble_eq_true rfl) (cm_isFine (by omega) _) (fun z51 s51 h51 => ?_)
        obtain ⟨h51, e51⟩ := h51
        obtain rfl := e51.symm
        refine g_if_eq (tgt := 241) dX7_parses_54 (by decide) (fun c54 => ?_) (fun c54 => ?_)
        · exfalso; omega
        · refine g_aload_n dX7_parses_57 rfl ?_
          refine g_getA dX7_parses_58 tf_7_77 rfl rfl (mrf hf rfl) ?_
          refine g_aload_n dX7_parses_61 rfl ?_
          refine g_getI dX7_parses_62 tf_7_207 rfl rfl ?_
          rw [ho]
          refine g_ialdN (oth) dX7_parses_65 rfl (by omega) (by omega) ?_
          rw [h23]
          refine g_istore_n dX7_parses_66 (by decide) rfl ?_
          refine g_aload_n dX7_parses_67 rfl ?_
          refine g_getI dX7_parses_68 tf_7_181 rfl rfl ?_
          refine g_iconst dX7_parses_71 ⟨by decide, by decide⟩ ?_
          refine g_icmp_ne (tgt := 101) dX7_parses_72 (by decide) (fun c72 => ?_) (fun c72 => ?_)
          · exfalso; omega
          · refine g_aload_n dX7_parses_75 rfl ?_
            refine g_getI dX7_parses_76 tf_7_178 rfl rfl ?_
            rw [hv]
            refine g_callsI dX7_parses_79 tm_7_233 rfl ⟨Nat.le_of_ble_eq_true rfl, rfl, rfl⟩ (Nat.le_of_ble_eq_true rfl) (cm_functionOf (by omega) s _) (fun z79 s79 h79 => ?_)
            obtain ⟨rfl, e79⟩ := h79
            obtain rfl := e79.symm
            refine g_if_gt (tgt := 101) dX7_parses_82 (by decide) (fun c82 => ?_) (fun c82 => ?_)
            · exact fbad (by omega) _ _
            · refine g_aload_n dX7_parses_85 rfl ?_
              refine g_getI dX7_parses_86 tf_7_178 rfl rfl ?_
              rw [hv]
              refine g_callsI dX7_parses_89 tm_7_240 rfl ⟨Nat.le_of_ble_eq_true rfl, rfl, rfl⟩ (Nat.le_of_ble_eq_true rfl) (cm_workOf (by omega) s _ (by omega)) (fun z89 s89 h89 => ?_)
              obtain ⟨rfl, e89⟩ := h89
              obtain rfl := e89.symm
              refine g_if_ge (tgt := 101) dX7_parses_92 (by decide) (fun c92 => ?_) (fun c92 => ?_)
              · exact fbad (by omega) _ _
              · refine g_iload_n dX7_parses_95 rfl ?_
                refine g_bipush dX7_parses_96 (by decide) ?_
                refine g_icmp_ne (tgt := 110) dX7_parses_98 (by decide) (fun c98 => ?_) (fun c98 => ?_)
                · refine g_aload_n dX7_parses_110 rfl ?_
                  refine g_getA dX7_parses_111 tf_7_80 rfl rfl (mrf hf rfl) ?_
                  refine g_bipush dX7_parses_114 (by decide) ?_
                  refine g_aload_n dX7_parses_116 rfl ?_
                  refine g_getI dX7_parses_117 tf_7_207 rfl rfl ?_
                  refine g_imul dX7_parses_120 rfl ⟨by omega, by omega⟩ ?_
                  refine g_iload_n dX7_parses_121 rfl ?_
                  refine g_iadd dX7_parses_122 rfl ⟨by omega, by omega⟩ ?_
                  refine g_aload_n dX7_parses_123 rfl ?_
                  refine g_getI dX7_parses_124 tf_7_178 rfl rfl ?_
                  have hcond : (tkT tx n i).1 = 2 ∧ fnS (tkT tx n i).2 = 0 ∧ wkS (tkT tx n i).2 < 0 ∧ r ≠ 12 := ⟨hn2, by omega, by omega, by omega⟩
                  rw [if_pos hcond] at hRR
                  rw [hv]
                  have hTi : tkT tx n i = (2, (tkT tx n i).2) := Prod.ext hn2 rfl
                  generalize hnu : (tkT tx n i).2 = v at *
                  have rv : rI v := ⟨by omega, by omega⟩
                  refine g_iastN (12 * oth + r) dX7_parses_127 rfl (by omega) (by omega) ?_
                  refine g_aload_n dX7_parses_128 rfl ?_
                  refine g_getA dX7_parses_129 tf_7_86 rfl rfl (mrf hf rfl) ?_
                  refine g_bipush dX7_parses_132 (by decide) ?_
                  refine g_aload_n dX7_parses_134 rfl ?_
                  refine g_getI dX7_parses_135 tf_7_207 rfl rfl ?_
                  rw [hI_uI_n (by omega), ho]
                  refine g_imul dX7_parses_138 rfl ⟨by omega, by omega⟩ ?_
                  refine g_iload_n dX7_parses_139 rfl ?_
                  refine g_iadd dX7_parses_140 rfl ⟨by omega, by omega⟩ ?_
                  refine g_aload_n dX7_parses_141 rfl ?_
                  refine g_getI dX7_parses_142 tf_7_210 rfl rfl ?_
                  rw [hI_uI_n (by omega), h36]
                  refine g_iastN (13 * oth + r) dX7_parses_145 rfl (by omega) (by omega) ?_
                  have f1 : QFr oth s (uI (uI s 24 (12 * oth + r) v) 26 (13 * oth + r) (c : Int)) := ((QFr.rf oth s).u (by unfold scQ; omega)).u (by unfold scQ; omega)
                  have rc1 : rI ((c : Nat) : Int) := ⟨by omega, by omega⟩
                  have hx1 : PFx oth n tx (uI (uI s 24 (12 * oth + r) v) 26 (13 * oth + r) (c : Int)) := hx.q f1 ((hI_uI_n (by omega)).trans ((hI_uI_n (by omega)).trans hx.2.2.2.1)) ((hb.u (rg_ff (by omega) rv)).u (rg_ff (by omega) rc1))
                  have hp1 : PFi tx n i (uI (uI s 24 (12 * oth + r) v) 26 (13 * oth + r) (c : Int)) := hp.of (fun k hk => by rw [hI_uI_n (by omega), hI_uI_n (by omega)])
                  have e1 : ∀ o k, o ≠ 24 → o ≠ 26 → hI (uI (uI s 24 (12 * oth + r) v) 26 (13 * oth + r) (c : Int)) o k = hI s o k := fun o k a b => by rw [hI_uI_n (by omega), hI_uI_n (by omega)]
                  have e24 : hI (uI (uI s 24 (12 * oth + r) v) 26 (13 * oth + r) (c : Int)) 24 (12 * oth + r) = v := by rw [hI_uI_n (by omega), hI_uI_e rv]
                  have e24o : ∀ k, k ≠ 12 * oth + r → hI (uI (uI s 24 (12 * oth + r) v) 26 (13 * oth + r) (c : Int)) 24 k = hI s 24 k := fun k hk => by rw [hI_uI_n (by omega), hI_uI_n (by omega)]
                  have e26 : hI (uI (uI s 24 (12 * oth + r) v) 26 (13 * oth + r) (c : Int)) 26 (13 * oth + r) = (c : Int) := by rw [hI_uI_e rc1]
                  have e26o : ∀ k, k ≠ 13 * oth + r → hI (uI (uI s 24 (12 * oth + r) v) 26 (13 * oth + r) (c : Int)) 26 k = hI s 26 k := fun k hk => by rw [hI_uI_n (by omega), hI_uI_n (by omega)]
                  generalize uI (uI s 24 (12 * oth + r) v) 26 (13 * oth + r) (c : Int) = s1 at *
                  refine g_aload_n dX7_parses_146 rfl ?_
                  refine g_callvV dX7_parses_147 tm_7_200 rfl ⟨rfl, rfl⟩ rfl (Nat.le_of_ble_eq_true rfl) (cm_readsP (by omega) s1 hx1 hp1 (by rw [hn2]; exact ⟨by decide, by decide⟩)) (fun s147 h147 => ?_)
                  obtain ⟨w2, hx2, hp2⟩ := h147
                  have q2 : ∀ o k, ¬ (o = 0 ∧ 24 ≤ k ∧ k ≤ 27) → hI s147 o k = hI s1 o k := w2.2
                  refine g_aload_n dX7_parses_150 rfl ?_
                  refine g_bipush dX7_parses_151 (by decide) ?_
                  refine g_callvV dX7_parses_153 tm_7_229 rfl ⟨rfl, rfl⟩ rfl (Nat.le_of_ble_eq_true rfl) (cm_mustP (by omega) s147 hx2 hp2 61) (fun s153 h153 => ?_)
                  obtain ⟨hx3, h153⟩ := h153
                  have hf3 : s153.2.2 = mH := hx3.1
                  have hf := hf3
                  have ho3 : hI s153 0 43 = (oth : Int) := hx3.2.2.1
                  rcases h153 with ⟨hT, w3, hp3⟩ | ⟨hT, fr3, h29⟩
                  · rw [if_pos hT] at hRR
                    have hp329 := hp3.2.2
                    have q36 : hI s153 0 36 = (c : Int) := by rw [w3.2 0 36 (by omega), q2 0 36 (by omega), e1 0 36 (by omega) (by omega)]; exact h36
                    have f3 : QFr oth s s153 := (f1.tr (w2.pf (oth := oth) (c := 0)).q).tr (w3.pf (oth := oth) (c := 0)).q
                    have q323 : hI s153 23 oth = (r : Int) := by rw [w3.2 23 oth (by omega), q2 23 oth (by omega), e1 23 oth (by omega) (by omega)]; exact h23
                    refine g_aload_n dX7_parses_156 rfl ?_
                    refine g_getA dX7_parses_157 tf_7_83 rfl rfl (mrf hf rfl) ?_
                    refine g_bipush dX7_parses_160 (by decide) ?_
                    refine g_aload_n dX7_parses_162 rfl ?_
                    refine g_getI dX7_parses_163 tf_7_207 rfl rfl ?_
                    rw [ho3]
                    refine g_imul dX7_parses_166 rfl ⟨by omega, by omega⟩ ?_
                    refine g_iload_n dX7_parses_167 rfl ?_
                    refine g_iadd dX7_parses_168 rfl ⟨by omega, by omega⟩ ?_
                    refine g_aload_n dX7_parses_169 rfl ?_
                    refine g_callvI dX7_parses_170 tm_7_193 rfl ⟨rfl, rfl⟩ rfl (Nat.le_of_ble_eq_true rfl) (cm_isFine (by omega) _) (fun z170 s170 h170 => ?_)
                    obtain ⟨h170, e170⟩ := h170
                    obtain rfl := e170.symm
                    refine g_if_eq (tgt := 184) dX7_parses_173 (by decide) (fun c173 => ?_) (fun c173 => ?_)
                    · exfalso; omega
                    · refine g_aload_n dX7_parses_176 rfl ?_
                      refine g_iconst dX7_parses_177 ⟨by decide, by decide⟩ ?_
                      refine g_callvI dX7_parses_178 tm_7_226 rfl ⟨rfl, rfl⟩ rfl (Nat.le_of_ble_eq_true rfl) ((pO_ok 8 (by omega)).2 d (by omega) (i + 2) c s153 hx3 hp3 q36 (by omega)) (fun z178 s178 h178 => ?_)
                      refine g_goto (tgt := 185) dX7_parses_181 (by decide) ?_
                      have hx4 := h178.1
                      have fr4 := h178.2.1
                      have hf4 : s178.2.2 = mH := hx4.1
                      have hf := hf4
                      have ho4 : hI s178 0 43 = (oth : Int) := hx4.2.2.1
                      have f4 : QFr oth s s178 := f3.tr fr4.q
                      have q423 : hI s178 23 oth = (r : Int) := (fr4.2 23 oth (by unfold scP; omega)).trans q323
                      rcases hone1 : pS (tkT tx n) 8 (i + 2) with g | q
                      · simp only [hone1] at hRR
                        rw [hone1] at h178
                        obtain ⟨-, -, rfl, p29⟩ := h178
                        obtain rfl : Sum.inl g = R := hRR
                        refine g_iastN (12 * oth + r) dX7_parses_185 rfl (by omega) (by omega) ?_
                        exact parse_bad2 hD _ r g (by omega) _ hf ((hI_uI_n (by omega)).trans ho4) hoth ((hI_uI_n (by omega)).trans q423) (fr.tr (f4.u (by unfold scQ; omega))) (hx4.2.1.u (rg_ff (by omega) ⟨by omega, by omega⟩)) ((hI_uI_n (by omega)).trans p29)
                      · simp only [hone1] at hRR
                        rw [hone1] at h178
                        obtain ⟨-, -, p1, p2, rfl, p4, p5, c2, p6, p7, p8, p9, p10, p11⟩ := h178
                        replace p11 := fun _ : Unit => p11
                        have hle4 := p1.le
                        refine g_iastN (12 * oth + r) dX7_parses_185 rfl (by omega) (by omega) ?_
                        have rz : rI ((1600 * oth + c : Nat) : Int) := ⟨by omega, by omega⟩
                        have hx5 : PFx oth n tx (uI s178 25 (12 * oth + r) ((1600 * oth + c : Nat) : Int)) := hx4.q ((QFr.rf oth _).u (by unfold scQ; omega)) ((hI_uI_n (by omega)).trans hx4.2.2.2.1) (hx4.2.1.u (rg_ff (by omega) rz))
                        have hp5 : PFi tx n q.2 (uI s178 25 (12 * oth + r) ((1600 * oth + c : Nat) : Int)) := p1.of (fun k hk => hI_uI_n (by omega))
                        have e5 : ∀ o k, ¬ (o = 25 ∧ k = 12 * oth + r) → hI (uI s178 25 (12 * oth + r) ((1600 * oth + c : Nat) : Int)) o k = hI s178 o k := fun o k hk => hI_uI_n hk
                        have e25 : hI (uI s178 25 (12 * oth + r) ((1600 * oth + c : Nat) : Int)) 25 (12 * oth + r) = ((1600 * oth + c : Nat) : Int) := hI_uI_e rz
                        have f5 : QFr oth s (uI s178 25 (12 * oth + r) ((1600 * oth + c : Nat) : Int)) := f4.u (by unfold scQ; omega)
                        generalize uI s178 25 (12 * oth + r) ((1600 * oth + c : Nat) : Int) = s5 at *
                        have a4 : ∀ o k, ¬ scP oth c o k → hI s178 o k = hI s153 o k := fr4.2
                        have a1 : ∀ o k, ¬ (o = 0 ∧ 24 ≤ k ∧ k ≤ 27) → hI s153 o k = hI s1 o k := fun o k hk => by rw [w3.2 o k hk, q2 o k hk]
                        have hr12 : r < 12 := by have := hcond.2.2.2; omega
                        clear hw hfr hv hnum c72 c82 c92 c98 hp329 hTi hcond fbad hx4 f3 f4 fr4 q36 w3 hp3 hx3 hf3 hf4 ho3 ho4 w2 hx2 hp2 f1 hx1 hp1 hf hx hp h23 hl12 hb
                        refine parse_tail hD hR ⟨fun o k k1 k2 k3 k4 => ?_, fun k hk => ?_, ?_, ?_, by rw [hc]; exact p7, ?_, ?_, fun k hk => ?_, ?_, fun x => ?_⟩ r hr hr12 hx5 hp5 (fr.tr f5) ((e5 _ _ (by omega)).trans q423) ((e5 _ _ (by omega)).trans p6) p8 R hRR (fun cf2 s7 o3 o4 g1 g2 g3 g4 g5 g6 => ih _ _ cf2 s7 o3 o4 (by rw [List.length_append, hr]; show r + 1 + m = 13; omega) g1 g2 g3 g4 g5 g6) _
                        · rw [hc] at k4
                          rw [e5 o k (by omega), a4 o k (by unfold scP; omega), a1 o k (by omega), e1 o k (by omega) (by omega)]
                        · rw [hr] at hk
                          exact ⟨by rw [e5 _ _ (by omega), a4 _ _ (by unfold scP; omega), a1 _ _ (by omega), e24o _ (by omega)], by rw [e5 _ _ (by omega), a4 _ _ (by unfold scP; omega), a1 _ _ (by omega), e1 _ _ (by omega) (by omega)]⟩
                        · rw [hr, e5 _ _ (by omega), a4 _ _ (by unfold scP; omega), a1 _ _ (by omega)]; exact e24
                        · rw [hc, hr]; exact e25
                        · rw [hc]; exact NdP_congr (t := tdM s178) (fun k k1 k2 => ⟨e5 17 k (by omega), e5 18 k (by omega), e5 19 k (by omega)⟩) (fun k k1 k2 => ⟨e5 20 k (by omega), e5 22 k (by omega)⟩) p9
                        · rw [hc]; exact NmP.congr (t := tdM s178) p10 (fun k k1 k2 => ⟨e5 17 k (by omega), e5 18 k (by omega)⟩)
                        · rw [hr] at hk
                          rw [e5 _ _ (by omega), a4 _ _ (by unfold scP; omega), a1 _ _ (by omega), e26o _ (by omega)]
                        · rw [hc, hr, e5 _ _ (by omega), a4 _ _ (by unfold scP; omega), a1 _ _ (by omega)]; exact e26
                        · rw [e5 _ _ (by omega), p11 x, a1 _ _ (by omega), e1 _ _ (by omega) (by omega)]
                  · rw [if_neg hT] at hRR
                    obtain rfl : Sum.inl (i + 1) = R := hRR
                    have h290 : 0 ≤ hI s153 0 29 := by omega
                    have q323 : hI s153 23 oth = (r : Int) := by rw [(fr3 0).2 23 oth (by unfold scP; omega), q2 23 oth (by omega), e1 23 oth (by omega) (by omega)]; exact h23
                    have f3 : QFr oth s s153 := (f1.tr (w2.pf (oth := oth) (c := 0)).q).tr (fr3 0).q
                    refine g_aload_n dX7_parses_156 rfl ?_
                    refine g_getA dX7_parses_157 tf_7_83 rfl rfl (mrf hf rfl) ?_
                    refine g_bipush dX7_parses_160 (by decide) ?_
                    refine g_aload_n dX7_parses_162 rfl ?_
                    refine g_getI dX7_parses_163 tf_7_207 rfl rfl ?_
                    rw [ho3]
                    refine g_imul dX7_parses_166 rfl ⟨by omega, by omega⟩ ?_
                    refine g_iload_n dX7_parses_167 rfl ?_
                    refine g_iadd dX7_parses_168 rfl ⟨by omega, by omega⟩ ?_
                    refine g_aload_n dX7_parses_169 rfl ?_
                    refine g_callvI dX7_parses_170 tm_7_193 rfl ⟨rfl, rfl⟩ rfl (Nat.le_of_ble_eq_true rfl) (cm_isFine (by omega) _) (fun z170 s170 h170 => ?_)
                    obtain ⟨h170, e170⟩ := h170
                    obtain rfl := e170.symm
                    refine g_if_eq (tgt := 184) dX7_parses_173 (by decide) (fun c173 => ?_) (fun c173 => ?_)
                    · refine g_iconst dX7_parses_184 ⟨by decide, by decide⟩ ?_
                      refine g_iastN (12 * oth + r) dX7_parses_185 rfl (by omega) (by omega) ?_
                      exact parse_bad2 hD _ r (i + 1) (by omega) _ hf ((hI_uI_n (by omega)).trans ho3) hoth ((hI_uI_n (by omega)).trans q323) (fr.tr (f3.u (by unfold scQ; omega))) (hx3.2.1.u (rg_ff (by omega) ⟨by decide, by decide⟩)) ((hI_uI_n (by omega)).trans h29)
                    · exfalso; omega
                · exact fbad (by omega) _ _
    · have fb := fbad (fun h => hn2 h.1)
      refine g_iload_n dX7_parses_46 rfl ?_
      refine g_if_eq (tgt := 241) dX7_parses_47 (by decide) (fun c47 => ?_) (fun c47 => ?_)
      · exfalso; omega
      · refine g_aload_n dX7_parses_50 rfl ?_
        refine g_callvI dX7_parses_51 tm_7_193 rfl ⟨rfl, rfl⟩ rfl (Nat.le_of_ble_eq_true rfl) (cm_isFine (by omega) _) (fun z51 s51 h51 => ?_)
        obtain ⟨h51, e51⟩ := h51
        obtain rfl := e51.symm
        refine g_if_eq (tgt := 241) dX7_parses_54 (by decide) (fun c54 => ?_) (fun c54 => ?_)
        · exfalso; omega
        · refine g_aload_n dX7_parses_57 rfl ?_
          refine g_getA dX7_parses_58 tf_7_77 rfl rfl (mrf hf rfl) ?_
          refine g_aload_n dX7_parses_61 rfl ?_
          refine g_getI dX7_parses_62 tf_7_207 rfl rfl ?_
          rw [ho]
          refine g_ialdN (oth) dX7_parses_65 rfl (by omega) (by omega) ?_
          rw [h23]
          refine g_istore_n dX7_parses_66 (by decide) rfl ?_
          refine g_aload_n dX7_parses_67 rfl ?_
          refine g_getI dX7_parses_68 tf_7_181 rfl rfl ?_
          refine g_iconst dX7_parses_71 ⟨by decide, by decide⟩ ?_
          refine g_icmp_ne (tgt := 101) dX7_parses_72 (by decide) (fun c72 => ?_) (fun c72 => ?_)
          · exact fb _ _
          · exfalso; omega
theorem cm_parses {D oth n : Nat} (hD : 41 ≤ D) (σ : am_HS) (hf : σ.2.2 = mH) (hb : rgM σ) (ho : hI σ 0 43 = (oth : Int)) (hoth : oth < 2) (hnn : n ≤ 600) : am_Do lm D mX7_parses σ [vR (some 0), vI (n : Int)] (qI fun z u => PaQ oth n (fun j => hI σ 16 j) σ (pRA (tkT (fun j => hI σ 16 j) n) 13 [] 0) z u) := by
  obtain ⟨d, rfl⟩ : ∃ d, D = d + 1 := ⟨D - 1, by omega⟩
  refine am_enter rfl rfl (Nat.le_of_ble_eq_true rfl) ?_
  have r0 : rI 0 := ⟨by decide, by decide⟩
  have rm : rI (-1) := ⟨by decide, by decide⟩
  have rn : rI (n : Int) := ⟨by omega, by omega⟩
  refine g_aload_n dX7_parses_0 rfl ?_
  refine g_iconst dX7_parses_1 ⟨by decide, by decide⟩ ?_
  refine g_putI dX7_parses_2 tf_7_169 rfl rfl rfl ?_
  refine g_aload_n dX7_parses_5 rfl ?_
  refine g_iload_n dX7_parses_6 rfl ?_
  refine g_putI dX7_parses_7 tf_7_172 rfl rfl rfl ?_
  refine g_aload_n dX7_parses_10 rfl ?_
  refine g_iconst dX7_parses_11 ⟨by decide, by decide⟩ ?_
  refine g_putI dX7_parses_12 tf_7_190 rfl rfl rfl ?_
  refine g_aload_n dX7_parses_15 rfl ?_
  refine g_iconst dX7_parses_16 ⟨by decide, by decide⟩ ?_
  refine g_putI dX7_parses_17 tf_7_210 rfl rfl rfl ?_
  refine g_aload_n dX7_parses_20 rfl ?_
  refine g_getA dX7_parses_21 tf_7_89 rfl rfl (mrf hf rfl) ?_
  refine g_aload_n dX7_parses_24 rfl ?_
  refine g_getI dX7_parses_25 tf_7_207 rfl rfl ?_
  refine g_iconst dX7_parses_28 ⟨by decide, by decide⟩ ?_
  rw [hI_uI_n (by omega), hI_uI_n (by omega), hI_uI_n (by omega), hI_uI_n (by omega), ho]
  refine g_zastN (oth) dX7_parses_29 rfl (by omega) (by omega) (by decide) ?_
  refine g_aload_n dX7_parses_30 rfl ?_
  refine g_getA dX7_parses_31 tf_7_77 rfl rfl (mrf hf rfl) ?_
  refine g_aload_n dX7_parses_34 rfl ?_
  refine g_getI dX7_parses_35 tf_7_207 rfl rfl ?_
  refine g_iconst dX7_parses_38 ⟨by decide, by decide⟩ ?_
  rw [hI_uI_n (by omega), hI_uI_n (by omega), hI_uI_n (by omega), hI_uI_n (by omega), hI_uI_n (by omega), ho]
  refine g_iastN (oth) dX7_parses_39 rfl (by omega) (by omega) ?_
  have f0 : QFr oth σ (uI (uI (uI (uI (uI (uI σ 0 27 0) 0 28 (n : Int)) 0 29 (-1)) 0 36 0) 27 oth 0) 23 oth 0) := ((((((QFr.rf oth σ).u (by unfold scQ; omega)).u (by unfold scQ; omega)).u (by unfold scQ; omega)).u (by unfold scQ; omega)).u (by unfold scQ; omega)).u (by unfold scQ; omega)
  have b0 : rgM (uI (uI (uI (uI (uI (uI σ 0 27 0) 0 28 (n : Int)) 0 29 (-1)) 0 36 0) 27 oth 0) 23 oth 0) := (((((hb.u (rg_ff (by omega) r0)).u (rg_ff (by omega) rn)).u (rg_ff (by omega) rm)).u (rg_ff (by omega) r0)).u ⟨by decide, by decide⟩).u (rg_ff (by omega) r0)
  have e27 : hI (uI (uI (uI (uI (uI (uI σ 0 27 0) 0 28 (n : Int)) 0 29 (-1)) 0 36 0) 27 oth 0) 23 oth 0) 0 27 = 0 := by rw [hI_uI_n (by omega), hI_uI_n (by omega), hI_uI_n (by omega), hI_uI_n (by omega), hI_uI_n (by omega), hI_uI_e r0]
  have e28 : hI (uI (uI (uI (uI (uI (uI σ 0 27 0) 0 28 (n : Int)) 0 29 (-1)) 0 36 0) 27 oth 0) 23 oth 0) 0 28 = (n : Int) := by rw [hI_uI_n (by omega), hI_uI_n (by omega), hI_uI_n (by omega), hI_uI_n (by omega), hI_uI_e rn]
  have e29 : hI (uI (uI (uI (uI (uI (uI σ 0 27 0) 0 28 (n : Int)) 0 29 (-1)) 0 36 0) 27 oth 0) 23 oth 0) 0 29 = -1 := by rw [hI_uI_n (by omega), hI_uI_n (by omega), hI_uI_n (by omega), hI_uI_e rm]
  have e36 : hI (uI (uI (uI (uI (uI (uI σ 0 27 0) 0 28 (n : Int)) 0 29 (-1)) 0 36 0) 27 oth 0) 23 oth 0) 0 36 = 0 := by rw [hI_uI_n (by omega), hI_uI_n (by omega), hI_uI_e r0]
  have eh : hI (uI (uI (uI (uI (uI (uI σ 0 27 0) 0 28 (n : Int)) 0 29 (-1)) 0 36 0) 27 oth 0) 23 oth 0) 27 oth = 0 := by rw [hI_uI_n (by omega), hI_uI_e r0]
  have e23 : hI (uI (uI (uI (uI (uI (uI σ 0 27 0) 0 28 (n : Int)) 0 29 (-1)) 0 36 0) 27 oth 0) 23 oth 0) 23 oth = 0 := by rw [hI_uI_e r0]
  have hf1 : ((uI (uI (uI (uI (uI (uI σ 0 27 0) 0 28 (n : Int)) 0 29 (-1)) 0 36 0) 27 oth 0) 23 oth 0)).2.2 = mH := hf
  generalize (uI (uI (uI (uI (uI (uI σ 0 27 0) 0 28 (n : Int)) 0 29 (-1)) 0 36 0) 27 oth 0) 23 oth 0) = s0 at *
  have e16 : ∀ j, hI s0 16 j = hI σ 16 j := fun j => f0.2 16 j (by unfold scQ; omega)
  have hx0 : PFx oth n (fun j => hI σ 16 j) s0 := ⟨hf1, b0, (f0.2 0 43 (by unfold scQ; omega)).trans ho, e28, e16, hoth, hnn⟩
  refine g_aload_n dX7_parses_40 rfl ?_
  refine g_callvV dX7_parses_41 tm_7_200 rfl ⟨rfl, rfl⟩ rfl (Nat.le_of_ble_eq_true rfl) (cm_reads (by omega) s0 hf1 b0 n 0 e28 hnn e27 (by omega)) (fun s41 h41 => ?_)
  obtain ⟨w1, hwd⟩ := h41
  have q1 : ∀ o k, ¬ (o = 0 ∧ 24 ≤ k ∧ k ≤ 27) → hI s41 o k = hI s0 o k := w1.2
  rw [show (fun j => hI s0 16 j) = (fun j => hI σ 16 j) from funext e16] at hwd
  have hx1 : PFx oth n (fun j => hI σ 16 j) s41 := hx0.of (c := 0) w1.pf (w1.rg b0)
  have hp1 : PFi (fun j => hI σ 16 j) n 0 s41 := ⟨hwd, Nat.zero_le _, by rw [q1 0 29 (by omega), e29]; decide⟩
  refine g_iconst dX7_parses_44 ⟨by decide, by decide⟩ ?_
  refine g_istore_n dX7_parses_45 (by decide) rfl ?_
  refine parse_loop (by omega) hnn 13 [] 0 (fun _ => 0) s41 _ _ rfl hx1 hp1 (f0.tr (w1.pf (oth := oth) (c := 0)).q) ⟨fun k a ha => by simp at ha, by decide, ?_, rfl, fun k hk => absurd hk (Nat.not_lt_zero _), fun hk => absurd hk (Nat.lt_irrefl _), ?_⟩ ?_ (by omega)
  · rw [q1 _ _ (by omega), e23]; rfl
  · rw [q1 _ _ (by omega), eh]
    exact ⟨fun h => absurd h (by decide), fun ⟨a, ha, _⟩ => absurd ha (by simp)⟩
  · rw [q1 _ _ (by omega), e36]; rfl
