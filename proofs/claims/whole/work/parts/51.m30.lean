/-! THE REFERENCE: reading sums -/
theorem ls_cons {A B' B : Prop} {T : Nat → Int × Int} {i j : Nat} {v : Int × Int} (h : A ↔ B' ∨ ∃ l, i + 1 ≤ l ∧ l < j ∧ T l = v) (hb : B' ↔ B ∨ T i = v) (hij : i < j) : A ↔ B ∨ ∃ l, i ≤ l ∧ l < j ∧ T l = v := by
  rw [h, hb]
  constructor
  · rintro ((q | q) | ⟨l, l1, l2, l3⟩)
    · exact Or.inl q
    · exact Or.inr ⟨i, Nat.le_refl _, hij, q⟩
    · exact Or.inr ⟨l, by omega, l2, l3⟩
  · rintro (q | ⟨l, l1, l2, l3⟩)
    · exact Or.inl (Or.inl q)
    · rcases Nat.lt_or_ge i l with q | q
      · exact Or.inr ⟨l, q, l2, l3⟩
      · have : l = i := by omega
        subst this
        exact Or.inl (Or.inr l3)

theorem sum_ok {oth n f D1 : Nat} {tx : Nat → Int} {deep : Int} (hD : 3 ≤ D1) (one : Nat → PR) (hpr : POK oth n tx f D1 mX7_product 1 deep (pPW one (tkT tx n))) : POK oth n tx (f + 1) (D1 + 1) mX7_sum 0 deep (pSW one (tkT tx n)) := by
  intro i c σ hx0 hi0 hc0 hb0
  refine am_enter rfl rfl (Nat.le_of_ble_eq_true rfl) ?_
  have hnn : n ≤ 600 := hx0.2.2.2.2.2.2
  have hoth : oth < 2 := hx0.2.2.2.2.2.1
  have hin := hi0.le
  have bad : ∀ (s : am_HS) (o3 o4 : Option am_V) (g : Nat), PFx oth n tx s → PFr oth c σ s → hI s 0 29 = (plT tx n g : Int) → am_Go lm D1 7 5 1 cX7_sum 17 [some (vR (some 0)), some (vI deep), some (vI ((1600 * oth + c : Nat) : Int)), o3, o4] [] s (qI fun z u => PQ oth n tx (f + 1) c i σ (.inl g) z u) := by
    intro s o3 o4 g hx fr h29
    refine g_aload_n dX7_sum_17 rfl ?_
    refine g_callvI dX7_sum_18 tm_7_193 rfl ⟨rfl, rfl⟩ rfl (Nat.le_of_ble_eq_true rfl) (cm_isFine (by omega) _) (fun z18 s18 h18 => ?_)
    obtain ⟨h18, e18⟩ := h18
    obtain rfl := e18.symm
    refine g_if_eq (tgt := 113) dX7_sum_21 (by decide) (fun c21 => ?_) (fun c21 => ?_)
    · refine g_aload_n dX7_sum_113 rfl ?_
      refine g_callvI dX7_sum_114 tm_7_193 rfl ⟨rfl, rfl⟩ rfl (Nat.le_of_ble_eq_true rfl) (cm_isFine (by omega) _) (fun z114 s114 h114 => ?_)
      obtain ⟨h114, e114⟩ := h114
      obtain rfl := e114.symm
      refine g_if_eq (tgt := 124) dX7_sum_117 (by decide) (fun c117 => ?_) (fun c117 => ?_)
      · refine g_iconst dX7_sum_124 ⟨by decide, by decide⟩ ?_
        refine g_ireturn dX7_sum_125 (Or.inl rfl) ⟨_, rfl, ?_⟩
        exact ⟨hx, fr, rfl, h29⟩
      · exfalso; omega
    · exfalso; omega
  have loop : ∀ (m i' : Nat) (cs : List (Nat × (NDn × Bool))) (s : am_HS) (o3 o4 : Option am_V), LI oth n tx f c i 2 0 σ cs i' s → PFi tx n i' s → 650 ≤ i' + m → am_Go lm D1 7 5 1 cX7_sum 17 [some (vR (some 0)), some (vI deep), some (vI ((1600 * oth + c : Nat) : Int)), o3, o4] [] s (qI fun z u => PQ oth n tx (f + 1) c i σ (pLS (pPW one (tkT tx n)) (tkT tx n) m (cs.map (fun q => q.2)) i') z u) := by
    intro m
    induction m with
    | zero =>
      intro i' cs s o3 o4 hL hp hm
      have := hp.le
      exfalso; omega
    | succ m ih =>
      intro i' cs s o3 o4 hL hp hm
      have hp29 := hp.2.2
      have hpl := hp.le
      have hx := hL.1
      have hf : s.2.2 = mH := hx.1
      have h43 := hx.2.2.1
      have b27 : 0 ≤ hI s 27 oth ∧ hI s 27 oth ≤ 1 := hx.2.1 27 oth
      obtain ⟨fr, hlt, c1, h36, hcc, hcb, k17, k18, k20, k22, k19, k21, hne, hK, hFl, hNm, hLs⟩ := hL.2
      obtain ⟨lr1, lr2⟩ := lsK_r (d := 0) hne hK
      generalize hR : pLS (pPW one (tkT tx n)) (tkT tx n) (m + 1) (cs.map (fun q => q.2)) i' = R
      have tail : ∀ (fl : Bool) (hv : Int) (lz b' : Int), tkT tx n i' = (3, hv) → (hv = 43 ∧ lz = 0 ∧ fl = false ∨ hv = 45 ∧ lz = 1 ∧ fl = true) → (b' = 0 ∨ b' = 1) → (b' = 1 ↔ hI s 27 oth = 1 ∨ tkT tx n i' = (3, 45)) → am_Go lm D1 7 5 1 cX7_sum 79 [some (vR (some 0)), some (vI deep), some (vI ((1600 * oth + c : Nat) : Int)), some (vI lz), o4] [] (uI s 27 oth b') (qI fun z u => PQ oth n tx (f + 1) c i σ (R) z u) := by
        intro fl hv lz b' hT hvl hb' hbi
        have f0 : PFr oth c1 s (uI s 27 oth b') := (PFr.rf oth c1 s).u (by unfold scP; omega)
        have hx2 : PFx oth n tx (uI s 27 oth b') := hx.of f0 (hx.2.1.u ⟨by show (0 : Int) ≤ b'; omega, by show b' ≤ (1 : Int); omega⟩)
        have hp2 : PFi tx n i' (uI s 27 oth b') := hp.of (fun k hk => hI_uI_n (by omega))
        have hcond : tkT tx n i' = (3, 43) ∨ tkT tx n i' = (3, 45) := by
          rcases hvl with ⟨a, -⟩ | ⟨a, -⟩
          · rw [a] at hT; exact Or.inl hT
          · rw [a] at hT; exact Or.inr hT
        have hdec : decide (tkT tx n i' = (3, 45)) = fl := by
          rcases hvl with ⟨a, -, b⟩ | ⟨a, -, b⟩
          · rw [b, hT, a]; exact decide_eq_false (ne3 (by decide))
          · rw [b, hT, a]; exact decide_eq_true rfl
        have hlz : lz = 0 ∨ lz = 1 := hvl.elim (fun q => Or.inl q.2.1) (fun q => Or.inr q.2.1)
        have hlz2 : 0 ≤ lz ∧ lz ≤ 1 := hlz.elim (fun q => by rw [q]; exact ⟨by decide, by decide⟩) (fun q => by rw [q]; exact ⟨by decide, by decide⟩)
        unfold pLS at hR
        rw [if_pos hcond, hdec] at hR
        refine g_aload_n dX7_sum_79 rfl ?_
        refine g_callvV dX7_sum_80 tm_7_200 rfl ⟨rfl, rfl⟩ rfl (Nat.le_of_ble_eq_true rfl) (cm_readsP (by omega) _ hx2 hp2 (tk3 hT)) (fun s80 h80 => ?_)
        obtain ⟨w80, hx80, hp80⟩ := h80
        have hf80 : s80.2.2 = mH := hx80.1
        have q36 : hI s80 0 36 = (c1 : Int) := (w80.2 0 36 (by omega)).trans ((hI_uI_n (by omega)).trans h36)
        have q27 : hI s80 27 oth = b' := (w80.2 27 oth (by omega)).trans (hI_uI_e ⟨by omega, by omega⟩)
        refine g_aload_n dX7_sum_83 rfl ?_
        refine g_iload_n dX7_sum_84 rfl ?_
        refine g_callvI dX7_sum_85 tm_7_216 rfl ⟨rfl, rfl⟩ rfl (Nat.le_of_ble_eq_true rfl) (hpr (i' + 1) c1 s80 hx80 hp80 q36 (by omega)) (fun z85 s85 h85 => ?_)
        have hx85 := h85.1
        have fr85 := h85.2.1
        have hf85 : s85.2.2 = mH := hx85.1
        refine g_istore dX7_sum_88 (by decide) rfl ?_
        have f2 : PFr oth c1 s s85 := (f0.tr w80.pf (Nat.le_refl _)).tr fr85 (Nat.le_refl _)
        rcases hone1 : (pPW one (tkT tx n)) (i' + 1) with g | q
        · rw [hone1] at hR h85
          obtain ⟨-, -, rfl, p29⟩ := h85
          obtain rfl : Sum.inl g = R := hR
          refine g_aload_n dX7_sum_90 rfl ?_
          refine g_iload_n dX7_sum_91 rfl ?_
          refine g_iload dX7_sum_92 rfl ?_
          refine g_callvV dX7_sum_94 tm_7_219 rfl ⟨rfl, rfl⟩ rfl (Nat.le_of_ble_eq_true rfl) (cm_addsN (by omega) s85 _ _ (by omega)) (fun s94 h94 => ?_)
          obtain rfl := h94
          refine g_iload dX7_sum_97 rfl ?_
          refine g_if_lt (tgt := 110) dX7_sum_99 (by decide) (fun c99 => ?_) (fun c99 => ?_)
          · refine g_goto (tgt := 17) dX7_sum_110 (by decide) ?_
            exact bad _ _ _ g hx85 (fr.tr f2 (by omega)) p29
          · exfalso; omega
        · rw [hone1] at hR h85
          obtain ⟨-, -, p1, p2, rfl, p4, p5, c2, p6, p7, p8, p9, p10, p11⟩ := h85
          have q19 : hI s85 19 (1600 * oth + c) = hI s 19 (1600 * oth + c) := f2.o (by omega)
          have q21 : hI s85 21 (1600 * oth + c) = hI s 21 (1600 * oth + c) := f2.o (by omega)
          have hLn := LI_add hL h36 hx85 f2 (j := q.2) (b := lz) (fl := fl) (by omega) p6 p7 p8 (by have := p1.le; omega) p9 p4 ((NmP.skip (nn3 hT)).app p10 (Nat.le_refl _) (by omega) (by omega) (by omega)) (ls_cons p11 (by rw [q27]; exact hbi) (by omega)) hlz2 (by unfold FlB; rw [if_pos rfl]; rcases hvl with ⟨a, b, c⟩ | ⟨a, b, c⟩; rw [b, c]; rfl; rw [b, c]; rfl)
          have hf := hf85
          refine g_aload_n dX7_sum_90 rfl ?_
          refine g_iload_n dX7_sum_91 rfl ?_
          refine g_iload dX7_sum_92 rfl ?_
          refine g_callvV dX7_sum_94 tm_7_219 rfl ⟨rfl, rfl⟩ rfl (Nat.le_of_ble_eq_true rfl) (cm_addsL (by omega) s85 hf _ _ (lsK 0 cs) (by omega) (by omega) (by omega) (by omega)) (fun s94 h94 => ?_)
          obtain rfl := h94
          refine g_iload dX7_sum_97 rfl ?_
          refine g_if_lt (tgt := 110) dX7_sum_99 (by decide) (fun c99 => ?_) (fun c99 => ?_)
          · exfalso; omega
          · refine g_aload_n dX7_sum_102 rfl ?_
            refine g_getA dX7_sum_103 tf_7_74 rfl rfl (mrf hf rfl) ?_
            refine g_iload dX7_sum_106 rfl ?_
            refine g_iload_n dX7_sum_108 rfl ?_
            refine g_zastN (1600 * oth + c1) dX7_sum_109 rfl (by omega) (by omega) hlz ?_
            refine g_goto (tgt := 17) dX7_sum_110 (by decide) ?_
            have hR2 : pLS (pPW one (tkT tx n)) (tkT tx n) m (cs.map (fun q => q.2) ++ [(q.1, fl)]) q.2 = R := hR
            have hfin := ih q.2 _ _ (some (vI lz)) (some (vI ((1600 * oth + c1 : Nat) : Int))) hLn.1 (hLn.2 p1) (by omega)
            simp only [List.map_append, List.map_cons, List.map_nil] at hfin
            rw [hR2] at hfin
            exact hfin
      by_cases hm43 : tkT tx n i' = (3, 43)
      · refine g_aload_n dX7_sum_17 rfl ?_
        refine g_callvI dX7_sum_18 tm_7_193 rfl ⟨rfl, rfl⟩ rfl (Nat.le_of_ble_eq_true rfl) (cm_isFine (by omega) _) (fun z18 s18 h18 => ?_)
        obtain ⟨h18, e18⟩ := h18
        obtain rfl := e18.symm
        refine g_if_eq (tgt := 113) dX7_sum_21 (by decide) (fun c21 => ?_) (fun c21 => ?_)
        · exfalso; omega
        · refine g_aload_n dX7_sum_24 rfl ?_
          refine g_bipush dX7_sum_25 (by decide) ?_
          refine g_callvI dX7_sum_27 tm_7_197 rfl ⟨rfl, rfl⟩ rfl (Nat.le_of_ble_eq_true rfl) (cm_isSignP (by omega) _ hp 43) (fun z27 s27 h27 => ?_)
          obtain ⟨h27, e27⟩ := h27
          obtain rfl := e27.symm
          have y27 : z27 = 1 := by rcases h27 with ⟨a, b⟩ | ⟨a, b⟩; exact a; exact absurd (hm43) b
          clear h27
          refine g_if_ne (tgt := 42) dX7_sum_30 (by decide) (fun c30 => ?_) (fun c30 => ?_)
          · refine g_aload_n dX7_sum_42 rfl ?_
            refine g_bipush dX7_sum_43 (by decide) ?_
            refine g_callvI dX7_sum_45 tm_7_197 rfl ⟨rfl, rfl⟩ rfl (Nat.le_of_ble_eq_true rfl) (cm_isSignP (by omega) _ hp 45) (fun z45 s45 h45 => ?_)
            obtain ⟨h45, e45⟩ := h45
            obtain rfl := e45.symm
            have y45 : z45 = 0 := by rcases h45 with ⟨a, b⟩ | ⟨a, b⟩; exact absurd b (by rw [hm43]; exact ne3 (by decide)); exact a
            clear h45
            refine g_istore_n dX7_sum_48 (by decide) rfl ?_
            refine g_aload_n dX7_sum_49 rfl ?_
            refine g_getA dX7_sum_50 tf_7_89 rfl rfl (mrf hf rfl) ?_
            refine g_aload_n dX7_sum_53 rfl ?_
            refine g_getI dX7_sum_54 tf_7_207 rfl rfl ?_
            refine g_aload_n dX7_sum_57 rfl ?_
            refine g_getA dX7_sum_58 tf_7_89 rfl rfl (mrf hf rfl) ?_
            refine g_aload_n dX7_sum_61 rfl ?_
            refine g_getI dX7_sum_62 tf_7_207 rfl rfl ?_
            rw [h43]
            refine g_zaldN (oth) dX7_sum_65 rfl (by omega) (by omega) ?_
            refine g_if_ne (tgt := 73) dX7_sum_66 (by decide) (fun c66 => ?_) (fun c66 => ?_)
            · refine g_iconst dX7_sum_73 ⟨by decide, by decide⟩ ?_
              refine g_goto (tgt := 78) dX7_sum_74 (by decide) ?_
              refine g_zastN (oth) dX7_sum_78 rfl (by omega) (by omega) (by decide) ?_
              first
                | exact tail false 43 _ _ hm43 (Or.inl ⟨rfl, by omega, rfl⟩) (by omega) ⟨fun h => Or.inl (by omega), fun h => by omega⟩
                | exact tail false 43 _ _ hm43 (Or.inl ⟨rfl, by omega, rfl⟩) (by omega) ⟨fun h => absurd h (by decide), fun h => by
                    rcases h with h | h
                    · exfalso; omega
                    · rw [hm43] at h
                      exact absurd h (ne3 (by decide))⟩
                | exact tail false 43 _ _ hm43 (Or.inl ⟨rfl, by omega, rfl⟩) (by omega) ⟨fun h => Or.inl (by omega), fun h => rfl⟩
            · refine g_iload_n dX7_sum_69 rfl ?_
              refine g_if_eq (tgt := 77) dX7_sum_70 (by decide) (fun c70 => ?_) (fun c70 => ?_)
              · refine g_iconst dX7_sum_77 ⟨by decide, by decide⟩ ?_
                refine g_zastN (oth) dX7_sum_78 rfl (by omega) (by omega) (by decide) ?_
                first
                  | exact tail false 43 _ _ hm43 (Or.inl ⟨rfl, by omega, rfl⟩) (by omega) ⟨fun h => Or.inl (by omega), fun h => by omega⟩
                  | exact tail false 43 _ _ hm43 (Or.inl ⟨rfl, by omega, rfl⟩) (by omega) ⟨fun h => absurd h (by decide), fun h => by
                      rcases h with h | h
                      · exfalso; omega
                      · rw [hm43] at h
                        exact absurd h (ne3 (by decide))⟩
                  | exact tail false 43 _ _ hm43 (Or.inl ⟨rfl, by omega, rfl⟩) (by omega) ⟨fun h => Or.inl (by omega), fun h => rfl⟩
              · refine g_iconst dX7_sum_73 ⟨by decide, by decide⟩ ?_
                refine g_goto (tgt := 78) dX7_sum_74 (by decide) ?_
                refine g_zastN (oth) dX7_sum_78 rfl (by omega) (by omega) (by decide) ?_
                first
                  | exact tail false 43 _ _ hm43 (Or.inl ⟨rfl, by omega, rfl⟩) (by omega) ⟨fun h => Or.inl (by omega), fun h => by omega⟩
                  | exact tail false 43 _ _ hm43 (Or.inl ⟨rfl, by omega, rfl⟩) (by omega) ⟨fun h => absurd h (by decide), fun h => by
                      rcases h with h | h
                      · exfalso; omega
                      · rw [hm43] at h
                        exact absurd h (ne3 (by decide))⟩
                  | exact tail false 43 _ _ hm43 (Or.inl ⟨rfl, by omega, rfl⟩) (by omega) ⟨fun h => Or.inl (by omega), fun h => rfl⟩
          · exfalso; omega
      · by_cases hm45 : tkT tx n i' = (3, 45)
        · refine g_aload_n dX7_sum_17 rfl ?_
          refine g_callvI dX7_sum_18 tm_7_193 rfl ⟨rfl, rfl⟩ rfl (Nat.le_of_ble_eq_true rfl) (cm_isFine (by omega) _) (fun z18 s18 h18 => ?_)
          obtain ⟨h18, e18⟩ := h18
          obtain rfl := e18.symm
          refine g_if_eq (tgt := 113) dX7_sum_21 (by decide) (fun c21 => ?_) (fun c21 => ?_)
          · exfalso; omega
          · refine g_aload_n dX7_sum_24 rfl ?_
            refine g_bipush dX7_sum_25 (by decide) ?_
            refine g_callvI dX7_sum_27 tm_7_197 rfl ⟨rfl, rfl⟩ rfl (Nat.le_of_ble_eq_true rfl) (cm_isSignP (by omega) _ hp 43) (fun z27 s27 h27 => ?_)
            obtain ⟨h27, e27⟩ := h27
            obtain rfl := e27.symm
            have y27 : z27 = 0 := by rcases h27 with ⟨a, b⟩ | ⟨a, b⟩; exact absurd b (hm43); exact a
            clear h27
            refine g_if_ne (tgt := 42) dX7_sum_30 (by decide) (fun c30 => ?_) (fun c30 => ?_)
            · exfalso; omega
            · refine g_aload_n dX7_sum_33 rfl ?_
              refine g_bipush dX7_sum_34 (by decide) ?_
              refine g_callvI dX7_sum_36 tm_7_197 rfl ⟨rfl, rfl⟩ rfl (Nat.le_of_ble_eq_true rfl) (cm_isSignP (by omega) _ hp 45) (fun z36 s36 h36 => ?_)
              obtain ⟨h36, e36⟩ := h36
              obtain rfl := e36.symm
              have y36 : z36 = 1 := by rcases h36 with ⟨a, b⟩ | ⟨a, b⟩; exact a; exact absurd (hm45) b
              clear h36
              refine g_if_eq (tgt := 113) dX7_sum_39 (by decide) (fun c39 => ?_) (fun c39 => ?_)
              · exfalso; omega
              · refine g_aload_n dX7_sum_42 rfl ?_
                refine g_bipush dX7_sum_43 (by decide) ?_
                refine g_callvI dX7_sum_45 tm_7_197 rfl ⟨rfl, rfl⟩ rfl (Nat.le_of_ble_eq_true rfl) (cm_isSignP (by omega) _ hp 45) (fun z45 s45 h45 => ?_)
                obtain ⟨h45, e45⟩ := h45
                obtain rfl := e45.symm
                have y45 : z45 = 1 := by rcases h45 with ⟨a, b⟩ | ⟨a, b⟩; exact a; exact absurd (hm45) b
                clear h45
                refine g_istore_n dX7_sum_48 (by decide) rfl ?_
                refine g_aload_n dX7_sum_49 rfl ?_
                refine g_getA dX7_sum_50 tf_7_89 rfl rfl (mrf hf rfl) ?_
                refine g_aload_n dX7_sum_53 rfl ?_
                refine g_getI dX7_sum_54 tf_7_207 rfl rfl ?_
                refine g_aload_n dX7_sum_57 rfl ?_
                refine g_getA dX7_sum_58 tf_7_89 rfl rfl (mrf hf rfl) ?_
                refine g_aload_n dX7_sum_61 rfl ?_
                refine g_getI dX7_sum_62 tf_7_207 rfl rfl ?_
                rw [h43]
                refine g_zaldN (oth) dX7_sum_65 rfl (by omega) (by omega) ?_
                refine g_if_ne (tgt := 73) dX7_sum_66 (by decide) (fun c66 => ?_) (fun c66 => ?_)
                · refine g_iconst dX7_sum_73 ⟨by decide, by decide⟩ ?_
                  refine g_goto (tgt := 78) dX7_sum_74 (by decide) ?_
                  refine g_zastN (oth) dX7_sum_78 rfl (by omega) (by omega) (by decide) ?_
                  exact tail true 45 _ _ hm45 (Or.inr ⟨rfl, by omega, rfl⟩) (by omega) ⟨fun _ => Or.inr hm45, fun _ => rfl⟩
                · refine g_iload_n dX7_sum_69 rfl ?_
                  refine g_if_eq (tgt := 77) dX7_sum_70 (by decide) (fun c70 => ?_) (fun c70 => ?_)
                  · exfalso; omega
                  · refine g_iconst dX7_sum_73 ⟨by decide, by decide⟩ ?_
                    refine g_goto (tgt := 78) dX7_sum_74 (by decide) ?_
                    refine g_zastN (oth) dX7_sum_78 rfl (by omega) (by omega) (by decide) ?_
                    exact tail true 45 _ _ hm45 (Or.inr ⟨rfl, by omega, rfl⟩) (by omega) ⟨fun _ => Or.inr hm45, fun _ => rfl⟩
        · unfold pLS at hR
          rw [if_neg (fun h => h.elim hm43 hm45)] at hR
          obtain rfl : Sum.inr (cmbL 2 0 (cs.map (fun q => q.2)), i') = R := hR
          refine g_aload_n dX7_sum_17 rfl ?_
          refine g_callvI dX7_sum_18 tm_7_193 rfl ⟨rfl, rfl⟩ rfl (Nat.le_of_ble_eq_true rfl) (cm_isFine (by omega) _) (fun z18 s18 h18 => ?_)
          obtain ⟨h18, e18⟩ := h18
          obtain rfl := e18.symm
          refine g_if_eq (tgt := 113) dX7_sum_21 (by decide) (fun c21 => ?_) (fun c21 => ?_)
          · exfalso; omega
          · refine g_aload_n dX7_sum_24 rfl ?_
            refine g_bipush dX7_sum_25 (by decide) ?_
            refine g_callvI dX7_sum_27 tm_7_197 rfl ⟨rfl, rfl⟩ rfl (Nat.le_of_ble_eq_true rfl) (cm_isSignP (by omega) _ hp 43) (fun z27 s27 h27 => ?_)
            obtain ⟨h27, e27⟩ := h27
            obtain rfl := e27.symm
            have y27 : z27 = 0 := by rcases h27 with ⟨a, b⟩ | ⟨a, b⟩; exact absurd b (hm43); exact a
            clear h27
            refine g_if_ne (tgt := 42) dX7_sum_30 (by decide) (fun c30 => ?_) (fun c30 => ?_)
            · exfalso; omega
            · refine g_aload_n dX7_sum_33 rfl ?_
              refine g_bipush dX7_sum_34 (by decide) ?_
              refine g_callvI dX7_sum_36 tm_7_197 rfl ⟨rfl, rfl⟩ rfl (Nat.le_of_ble_eq_true rfl) (cm_isSignP (by omega) _ hp 45) (fun z36 s36 h36 => ?_)
              obtain ⟨h36, e36⟩ := h36
              obtain rfl := e36.symm
              have y36 : z36 = 0 := by rcases h36 with ⟨a, b⟩ | ⟨a, b⟩; exact absurd b (hm45); exact a
              clear h36
              refine g_if_eq (tgt := 113) dX7_sum_39 (by decide) (fun c39 => ?_) (fun c39 => ?_)
              · refine g_aload_n dX7_sum_113 rfl ?_
                refine g_callvI dX7_sum_114 tm_7_193 rfl ⟨rfl, rfl⟩ rfl (Nat.le_of_ble_eq_true rfl) (cm_isFine (by omega) _) (fun z114 s114 h114 => ?_)
                obtain ⟨h114, e114⟩ := h114
                obtain rfl := e114.symm
                refine g_if_eq (tgt := 124) dX7_sum_117 (by decide) (fun c117 => ?_) (fun c117 => ?_)
                · exfalso; omega
                · refine g_iload_n dX7_sum_120 rfl ?_
                  refine g_goto (tgt := 125) dX7_sum_121 (by decide) ?_
                  refine g_ireturn dX7_sum_125 (Or.inl rfl) ⟨_, rfl, ?_⟩
                  exact LI_end hL hp (by omega) (by omega) (by omega) (by omega)
              · exfalso; omega
  have hf := hx0.1
  have r0 : rI 0 := ⟨by decide, by decide⟩
  have r2 : rI 2 := ⟨by decide, by decide⟩
  refine g_aload_n dX7_sum_0 rfl ?_
  refine g_iconst dX7_sum_1 ⟨by decide, by decide⟩ ?_
  refine g_iconst dX7_sum_2 ⟨by decide, by decide⟩ ?_
  refine g_callvI dX7_sum_3 tm_7_213 rfl ⟨rfl, rfl⟩ rfl (Nat.le_of_ble_eq_true rfl) (cm_node (by omega) σ hf hx0.2.2.1 hc0 hoth (by omega) _ _) (fun z3 s3 h3 => ?_)
  obtain ⟨rfl, rfl⟩ := h3
  have f3 : PFr oth c σ (ndS σ (1600 * oth + c) c 2 0) := ndS_fr (by omega)
  have rg3 : rgM (ndS σ (1600 * oth + c) c 2 0) := ndS_rg hx0.2.1 (by omega) r2 r0
  have n17 : hI (ndS σ (1600 * oth + c) c 2 0) 17 (1600 * oth + c) = 2 := ndS_17 r2
  have n18 : hI (ndS σ (1600 * oth + c) c 2 0) 18 (1600 * oth + c) = 0 := ndS_18 r0
  have n19 : hI (ndS σ (1600 * oth + c) c 2 0) 19 (1600 * oth + c) = -1 := ndS_19
  have n20 : hI (ndS σ (1600 * oth + c) c 2 0) 20 (1600 * oth + c) = -1 := ndS_20
  have n22 : hI (ndS σ (1600 * oth + c) c 2 0) 22 (1600 * oth + c) = 0 := ndS_22
  have n36 : hI (ndS σ (1600 * oth + c) c 2 0) 0 36 = ((c + 1 : Nat) : Int) := ndS_36 (by omega)
  have n27 : hI (ndS σ (1600 * oth + c) c 2 0) 27 oth = hI σ 27 oth := ndS_o (by omega) (by omega)
  have hp3 : PFi tx n i (ndS σ (1600 * oth + c) c 2 0) := hi0.of (fun k hk => ndS_o (by omega) (by omega))
  have hx3 : PFx oth n tx (ndS σ (1600 * oth + c) c 2 0) := hx0.of f3 rg3
  generalize ndS σ (1600 * oth + c) c 2 0 = s3 at *
  refine g_istore_n dX7_sum_6 (by decide) rfl ?_
  refine g_aload_n dX7_sum_7 rfl ?_
  refine g_iload_n dX7_sum_8 rfl ?_
  refine g_aload_n dX7_sum_9 rfl ?_
  refine g_iload_n dX7_sum_10 rfl ?_
  refine g_callvI dX7_sum_11 tm_7_216 rfl ⟨rfl, rfl⟩ rfl (Nat.le_of_ble_eq_true rfl) (hpr i (c + 1) s3 hx3 hp3 n36 (by omega)) (fun z11 s11 h11 => ?_)
  have hx11 := h11.1
  have fr11 := h11.2.1
  have hf11 : s11.2.2 = mH := hx11.1
  generalize hR : pSW one (tkT tx n) i = R
  unfold pSW at hR
  rcases hone1 : (pPW one (tkT tx n)) i with g | q
  · rw [hone1] at hR h11
    obtain ⟨-, -, rfl, p29⟩ := h11
    obtain rfl : Sum.inl g = R := hR
    refine g_callvV dX7_sum_14 tm_7_219 rfl ⟨rfl, rfl⟩ rfl (Nat.le_of_ble_eq_true rfl) (cm_addsN (by omega) s11 _ _ (by omega)) (fun s14 h14 => ?_)
    obtain rfl := h14
    exact bad _ _ _ g hx11 (f3.tr fr11 (by omega)) p29
  · rw [hone1] at hR h11
    have q19 : hI s11 19 (1600 * oth + c) = -1 := (fr11.o (by omega)).trans n19
    have hz11 : z11 = ((1600 * oth + c + 1 : Nat) : Int) := by rw [h11.2.2.2.2.1]; omega
    have hle11 := h11.2.2.1.le
    have hLf := LI_first f3 (Nat.le_refl i) n17 n18 n20 n22 (NmP.nodeNo (by show hI s3 17 _ ≠ 1; rw [n17]; decide)) (ls_nil (by rw [n27])) h11 (by omega)
    subst hz11
    refine g_callvV dX7_sum_14 tm_7_219 rfl ⟨rfl, rfl⟩ rfl (Nat.le_of_ble_eq_true rfl) (cm_addsF (by omega) s11 hf11 _ _ (by omega) (by omega)) (fun s14 h14 => ?_)
    obtain rfl := h14
    have hR2 : pLS (pPW one (tkT tx n)) (tkT tx n) 650 [(q.1, false)] q.2 = R := hR
    have hfin := loop 650 q.2 _ _ none none hLf.1 hLf.2 (by omega)
    simp only [List.map_cons, List.map_nil] at hfin
    rw [hR2] at hfin
    exact hfin
