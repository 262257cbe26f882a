/-! THE REFERENCE: reading products -/
theorem LI_addN {oth n : Nat} {tx : Nat → Int} {f c i : Nat} {op num : Int} {σ : am_HS} {cs : List (Nat × (NDn × Bool))} {i' : Nat} {s : am_HS} (h : LI oth n tx f c i op num σ cs i' s) {c1 c2 j : Nat} (hc1 : hI s 0 36 = (c1 : Int)) {s2 : am_HS} {e : NDn} {b : Int} {fl : Bool} (x2 : PFx oth n tx s2) (f2 : PFr oth c1 s s2) (hij : i' < j) (h36 : hI s2 0 36 = (c2 : Int)) (hc : c1 < c2) (hc2 : c2 ≤ 2 * j + 1) (hj : j ≤ 600) (hnd : NdP (tdM s2) f (1600 * oth + c1) (1600 * oth + c2) e) (h20 : hI s2 20 (1600 * oth + c1) = -1) (hnm : NmP (tdM s2) (tkT tx n) (1600 * oth + c1) (1600 * oth + c2) i' j) (hls : hI s2 27 oth = 1 ↔ hI s 27 oth = 1 ∨ ∃ l, i' ≤ l ∧ l < j ∧ tkT tx n l = (3, 45)) (hb : 0 ≤ b ∧ b ≤ 1) (hfl : FlB op fl b (hI s2 17 (1600 * oth + c1)) (hI s2 18 (1600 * oth + c1))) (hbb : hI s2 22 (1600 * oth + c1) = b) : LI oth n tx f c i op num σ (cs ++ [(1600 * oth + c1, (e, fl))]) j (uI (uI s2 20 (lsK 0 cs) ((1600 * oth + c1 : Nat) : Int)) 21 (1600 * oth + c) ((1600 * oth + c1 : Nat) : Int)) ∧ (PFi tx n j s2 → PFi tx n j (uI (uI s2 20 (lsK 0 cs) ((1600 * oth + c1 : Nat) : Int)) 21 (1600 * oth + c) ((1600 * oth + c1 : Nat) : Int))) := by
  have g := LI_add h hc1 x2 f2 hij h36 hc hc2 hj hnd h20 hnm hls hb hfl
  have e1 : hI (uI (uI s2 20 (lsK 0 cs) ((1600 * oth + c1 : Nat) : Int)) 21 (1600 * oth + c) ((1600 * oth + c1 : Nat) : Int)) 22 (1600 * oth + c1) = b := by rw [hI_uI_n (by omega), hI_uI_n (by omega)]; exact hbb
  have e2 := uI_self (uI (uI s2 20 (lsK 0 cs) ((1600 * oth + c1 : Nat) : Int)) 21 (1600 * oth + c) ((1600 * oth + c1 : Nat) : Int)) 22 (1600 * oth + c1)
  rw [e1] at e2
  rw [e2] at g
  exact g
theorem LI_W {oth n : Nat} {tx : Nat → Int} {f c i : Nat} {op num : Int} {σ : am_HS} {cs : List (Nat × (NDn × Bool))} {i' : Nat} {s u : am_HS} (h : LI oth n tx f c i op num σ cs i' s) (w : FrW s u) (x : PFx oth n tx u) : LI oth n tx f c i op num σ cs i' u := by
  obtain ⟨x1, f1, g1, c', g2, g3, g4, g5, g6, g7, g8, g9, g10, g11, g12, g13, g14, g15⟩ := h
  have e : ∀ o k, ¬ (o = 0 ∧ 24 ≤ k ∧ k ≤ 27) → hI u o k = hI s o k := w.2
  have et : tdM u = tdM s := by
    exact Prod.ext (funext fun k => e 17 k (by omega)) (Prod.ext (funext fun k => e 18 k (by omega)) (Prod.ext (funext fun k => e 19 k (by omega)) (Prod.ext (funext fun k => e 20 k (by omega)) (funext fun k => e 22 k (by omega)))))
  refine ⟨x, f1.tr w.pf (Nat.le_refl _), g1, c', (e 0 36 (by omega)).trans g2, g3, g4, (e 17 _ (by omega)).trans g5, (e 18 _ (by omega)).trans g6, (e 20 _ (by omega)).trans g7, (e 22 _ (by omega)).trans g8, ?_, (e 21 _ (by omega)).trans g10, g11, ?_, ?_, ?_, ?_⟩
  · rw [e 19 _ (by omega)]; exact g9
  · rw [et, e 19 _ (by omega)]; exact g12
  · rw [et]; exact g13
  · rw [et]; exact g14
  · rw [e 27 _ (by omega)]; exact g15
theorem ls_skip {A B : Prop} {T : Nat → Int × Int} {i j : Nat} {v : Int × Int} (h : A ↔ B ∨ ∃ l, i + 1 ≤ l ∧ l < j ∧ T l = v) (hv : T i ≠ v) : A ↔ B ∨ ∃ l, i ≤ l ∧ l < j ∧ T l = v := by
  rw [h]
  constructor
  · rintro (q | ⟨l, l1, l2, l3⟩)
    · exact Or.inl q
    · exact Or.inr ⟨l, by omega, l2, l3⟩
  · rintro (q | ⟨l, l1, l2, l3⟩)
    · exact Or.inl q
    · refine Or.inr ⟨l, ?_, l2, l3⟩
      rcases Nat.lt_or_ge i l with q | q
      · exact q
      · have : l = i := by omega
        subst this
        exact absurd l3 hv
theorem ls_nil {A B : Prop} {T : Nat → Int × Int} {i : Nat} {v : Int × Int} (h : A ↔ B) : A ↔ B ∨ ∃ l, i ≤ l ∧ l < i ∧ T l = v := by
  rw [h]
  exact ⟨Or.inl, fun q => q.elim id (fun ⟨l, l1, l2, _⟩ => by omega)⟩
theorem ne3 {a b : Int} (h : a ≠ b) : ((3 : Int), a) ≠ (3, b) := fun e => h (congrArg Prod.snd e)
theorem nn3 {T : Nat → Int × Int} {i : Nat} {c : Int} (h : T i = (3, c)) : (T i).1 ≠ 2 ∨ fnS (T i).2 ≠ 0 := Or.inl (by rw [h]; exact show (3 : Int) ≠ 2 by decide)
theorem PFr.o {oth c : Nat} {σ s : am_HS} (h : PFr oth c σ s) {o j : Nat} (hk : 1 ≤ o ∧ o ≤ 16 ∨ 28 ≤ o ∨ 17 ≤ o ∧ o ≤ 22 ∧ j < 1600 * oth + c) : hI s o j = hI σ o j := h.2 o j (by unfold scP; omega)

theorem product_ok {oth n f D1 : Nat} {tx : Nat → Int} {deep : Int} (hD : 3 ≤ D1) (hf1 : 1 ≤ f) (one : Nat → PR) (hone : POK oth n tx f D1 mX7_one 2 deep one) : POK oth n tx (f + 1) (D1 + 1) mX7_product 1 deep (pPW one (tkT tx n)) := by
  intro i c σ hx0 hi0 hc0 hb0
  refine am_enter rfl rfl (Nat.le_of_ble_eq_true rfl) ?_
  have hnn : n ≤ 600 := hx0.2.2.2.2.2.2
  have hoth : oth < 2 := hx0.2.2.2.2.2.1
  have hin := hi0.le
  have bad : ∀ (s : am_HS) (o3 o4 : Option am_V) (g : Nat), PFx oth n tx s → PFr oth c σ s → hI s 0 29 = (plT tx n g : Int) → am_Go lm D1 7 5 1 cX7_product 17 [some (vR (some 0)), some (vI deep), some (vI ((1600 * oth + c : Nat) : Int)), o3, o4] [] s (qI fun z u => PQ oth n tx (f + 1) c i σ (.inl g) z u) := by
    intro s o3 o4 g hx fr h29
    refine g_aload_n dX7_product_17 rfl ?_
    refine g_callvI dX7_product_18 tm_7_193 rfl ⟨rfl, rfl⟩ rfl (Nat.le_of_ble_eq_true rfl) (cm_isFine (by omega) _) (fun z18 s18 h18 => ?_)
    obtain ⟨h18, e18⟩ := h18
    obtain rfl := e18.symm
    refine g_if_eq (tgt := 123) dX7_product_21 (by decide) (fun c21 => ?_) (fun c21 => ?_)
    · refine g_aload_n dX7_product_123 rfl ?_
      refine g_callvI dX7_product_124 tm_7_193 rfl ⟨rfl, rfl⟩ rfl (Nat.le_of_ble_eq_true rfl) (cm_isFine (by omega) _) (fun z124 s124 h124 => ?_)
      obtain ⟨h124, e124⟩ := h124
      obtain rfl := e124.symm
      refine g_if_eq (tgt := 134) dX7_product_127 (by decide) (fun c127 => ?_) (fun c127 => ?_)
      · refine g_iconst dX7_product_134 ⟨by decide, by decide⟩ ?_
        refine g_ireturn dX7_product_135 (Or.inl rfl) ⟨_, rfl, ?_⟩
        exact ⟨hx, fr, rfl, h29⟩
      · exfalso; omega
    · exfalso; omega
  have loop : ∀ (m i' : Nat) (cs : List (Nat × (NDn × Bool))) (s : am_HS) (o3 o4 : Option am_V), LI oth n tx f c i 3 0 σ cs i' s → PFi tx n i' s → 650 ≤ i' + m → am_Go lm D1 7 5 1 cX7_product 17 [some (vR (some 0)), some (vI deep), some (vI ((1600 * oth + c : Nat) : Int)), o3, o4] [] s (qI fun z u => PQ oth n tx (f + 1) c i σ (pLP one (tkT tx n) m (cs.map (fun q => q.2)) i') z u) := by
    intro m
    induction m with
    | zero =>
      intro i' cs s o3 o4 hL hp hm
      have := hp.le
      exfalso; omega
    | succ m ih =>
      intro i' cs s o3 o4 hL hp hm
      have hp29 := hp.2.2
      have hpl := hp.le
      have hx := hL.1
      have hf : s.2.2 = mH := hx.1
      obtain ⟨fr, hlt, c1, h36, hcc, hcb, k17, k18, k20, k22, k19, k21, hne, hK, hFl, hNm, hLs⟩ := hL.2
      obtain ⟨lr1, lr2⟩ := lsK_r (d := 0) hne hK
      generalize hR : pLP one (tkT tx n) (m + 1) (cs.map (fun q => q.2)) i' = R
      unfold pLP at hR
      by_cases hm42 : tkT tx n i' = (3, 42)
      · rw [if_pos hm42] at hR
        refine g_aload_n dX7_product_17 rfl ?_
        refine g_callvI dX7_product_18 tm_7_193 rfl ⟨rfl, rfl⟩ rfl (Nat.le_of_ble_eq_true rfl) (cm_isFine (by omega) _) (fun z18 s18 h18 => ?_)
        obtain ⟨h18, e18⟩ := h18
        obtain rfl := e18.symm
        refine g_if_eq (tgt := 123) dX7_product_21 (by decide) (fun c21 => ?_) (fun c21 => ?_)
        · exfalso; omega
        · refine g_aload_n dX7_product_24 rfl ?_
          refine g_bipush dX7_product_25 (by decide) ?_
          refine g_callvI dX7_product_27 tm_7_197 rfl ⟨rfl, rfl⟩ rfl (Nat.le_of_ble_eq_true rfl) (cm_isSignP (by omega) _ hp 42) (fun z27 s27 h27 => ?_)
          obtain ⟨h27, e27⟩ := h27
          obtain rfl := e27.symm
          have y27 : z27 = 1 := by rcases h27 with ⟨a, b⟩ | ⟨a, b⟩; exact a; exact absurd (hm42) b
          clear h27
          refine g_if_ne (tgt := 42) dX7_product_30 (by decide) (fun c30 => ?_) (fun c30 => ?_)
          · refine g_aload_n dX7_product_42 rfl ?_
            refine g_bipush dX7_product_43 (by decide) ?_
            refine g_callvI dX7_product_45 tm_7_197 rfl ⟨rfl, rfl⟩ rfl (Nat.le_of_ble_eq_true rfl) (cm_isSignP (by omega) _ hp 47) (fun z45 s45 h45 => ?_)
            obtain ⟨h45, e45⟩ := h45
            obtain rfl := e45.symm
            have y45 : z45 = 0 := by rcases h45 with ⟨a, b⟩ | ⟨a, b⟩; exact absurd b (by rw [hm42]; exact ne3 (by decide)); exact a
            clear h45
            refine g_istore_n dX7_product_48 (by decide) rfl ?_
            refine g_aload_n dX7_product_49 rfl ?_
            refine g_callvV dX7_product_50 tm_7_200 rfl ⟨rfl, rfl⟩ rfl (Nat.le_of_ble_eq_true rfl) (cm_readsP (by omega) s hx hp (tk3 hm42)) (fun s50 h50 => ?_)
            obtain ⟨w50, hx50, hp50⟩ := h50
            have hf : s50.2.2 = mH := hx50.1
            have q36 : hI s50 0 36 = (c1 : Int) := (w50.2 0 36 (by omega)).trans h36
            refine g_iload_n dX7_product_53 rfl ?_
            refine g_if_ne (tgt := 70) dX7_product_54 (by decide) (fun c54 => ?_) (fun c54 => ?_)
            · exfalso; omega
            · refine g_aload_n dX7_product_57 rfl ?_
              refine g_iload_n dX7_product_58 rfl ?_
              refine g_aload_n dX7_product_59 rfl ?_
              refine g_iload_n dX7_product_60 rfl ?_
              refine g_callvI dX7_product_61 tm_7_223 rfl ⟨rfl, rfl⟩ rfl (Nat.le_of_ble_eq_true rfl) (hone (i' + 1) c1 s50 hx50 hp50 q36 (by omega)) (fun z61 s61 h61 => ?_)
              have hx61 := h61.1
              have fr61 := h61.2.1
              have hf : s61.2.2 = mH := hx61.1
              rcases hone1 : one (i' + 1) with g | q
              · rw [hone1] at hR h61
                obtain ⟨-, -, rfl, p29⟩ := h61
                obtain rfl : Sum.inl g = R := hR
                refine g_callvV dX7_product_64 tm_7_219 rfl ⟨rfl, rfl⟩ rfl (Nat.le_of_ble_eq_true rfl) (cm_addsN (by omega) s61 _ _ (by omega)) (fun s64 h64 => ?_)
                obtain rfl := h64
                refine g_goto (tgt := 17) dX7_product_67 (by decide) ?_
                exact bad _ _ _ g hx61 ((fr.tr w50.pf (Nat.le_refl _)).tr fr61 (by omega)) p29
              · rw [hone1] at hR h61
                obtain ⟨-, -, p1, p2, rfl, p4, p5, c2, p6, p7, p8, p9, p10, p11⟩ := h61
                have f2 : PFr oth c1 s s61 := w50.pf.tr fr61 (Nat.le_refl _)
                have q19 : hI s61 19 (1600 * oth + c) = hI s 19 (1600 * oth + c) := f2.o (by omega)
                have q21 : hI s61 21 (1600 * oth + c) = hI s 21 (1600 * oth + c) := f2.o (by omega)
                have q27 : hI s50 27 oth = hI s 27 oth := w50.2 27 oth (by omega)
                have hLn := LI_addN hL h36 hx61 f2 (j := q.2) (b := 0) (fl := false) (by omega) p6 p7 p8 (by have := p1.le; omega) p9 p4 ((NmP.skip (nn3 hm42)).app p10 (Nat.le_refl _) (by omega) (by omega) (by omega)) (ls_skip (by rw [p11, q27]) (by rw [hm42]; exact ne3 (by decide))) (by omega) (FlB_f _ _ _) p5
                refine g_callvV dX7_product_64 tm_7_219 rfl ⟨rfl, rfl⟩ rfl (Nat.le_of_ble_eq_true rfl) (cm_addsL (by omega) s61 hf _ _ (lsK 0 cs) (by omega) (by omega) (by omega) (by omega)) (fun s64 h64 => ?_)
                obtain rfl := h64
                refine g_goto (tgt := 17) dX7_product_67 (by decide) ?_
                have hR2 : pLP one (tkT tx n) m (cs.map (fun q => q.2) ++ [(q.1, false)]) q.2 = R := hR
                have hfin := ih q.2 _ _ (some (vI z45)) o4 hLn.1 (hLn.2 p1) (by omega)
                rw [List.map_append] at hfin
                rw [← hR2]
                exact hfin
          · exfalso; omega
      · rw [if_neg hm42] at hR
        by_cases hm47 : tkT tx n i' = (3, 47)
        · rw [if_pos hm47] at hR
          refine g_aload_n dX7_product_17 rfl ?_
          refine g_callvI dX7_product_18 tm_7_193 rfl ⟨rfl, rfl⟩ rfl (Nat.le_of_ble_eq_true rfl) (cm_isFine (by omega) _) (fun z18 s18 h18 => ?_)
          obtain ⟨h18, e18⟩ := h18
          obtain rfl := e18.symm
          refine g_if_eq (tgt := 123) dX7_product_21 (by decide) (fun c21 => ?_) (fun c21 => ?_)
          · exfalso; omega
          · refine g_aload_n dX7_product_24 rfl ?_
            refine g_bipush dX7_product_25 (by decide) ?_
            refine g_callvI dX7_product_27 tm_7_197 rfl ⟨rfl, rfl⟩ rfl (Nat.le_of_ble_eq_true rfl) (cm_isSignP (by omega) _ hp 42) (fun z27 s27 h27 => ?_)
            obtain ⟨h27, e27⟩ := h27
            obtain rfl := e27.symm
            have y27 : z27 = 0 := by rcases h27 with ⟨a, b⟩ | ⟨a, b⟩; exact absurd b (hm42); exact a
            clear h27
            refine g_if_ne (tgt := 42) dX7_product_30 (by decide) (fun c30 => ?_) (fun c30 => ?_)
            · exfalso; omega
            · refine g_aload_n dX7_product_33 rfl ?_
              refine g_bipush dX7_product_34 (by decide) ?_
              refine g_callvI dX7_product_36 tm_7_197 rfl ⟨rfl, rfl⟩ rfl (Nat.le_of_ble_eq_true rfl) (cm_isSignP (by omega) _ hp 47) (fun z36 s36 h36 => ?_)
              obtain ⟨h36, e36⟩ := h36
              obtain rfl := e36.symm
              have y36 : z36 = 1 := by rcases h36 with ⟨a, b⟩ | ⟨a, b⟩; exact a; exact absurd (hm47) b
              clear h36
              refine g_if_eq (tgt := 123) dX7_product_39 (by decide) (fun c39 => ?_) (fun c39 => ?_)
              · exfalso; omega
              · refine g_aload_n dX7_product_42 rfl ?_
                refine g_bipush dX7_product_43 (by decide) ?_
                refine g_callvI dX7_product_45 tm_7_197 rfl ⟨rfl, rfl⟩ rfl (Nat.le_of_ble_eq_true rfl) (cm_isSignP (by omega) _ hp 47) (fun z45 s45 h45 => ?_)
                obtain ⟨h45, e45⟩ := h45
                obtain rfl := e45.symm
                have y45 : z45 = 1 := by rcases h45 with ⟨a, b⟩ | ⟨a, b⟩; exact a; exact absurd (hm47) b
                clear h45
                refine g_istore_n dX7_product_48 (by decide) rfl ?_
                refine g_aload_n dX7_product_49 rfl ?_
                refine g_callvV dX7_product_50 tm_7_200 rfl ⟨rfl, rfl⟩ rfl (Nat.le_of_ble_eq_true rfl) (cm_readsP (by omega) s hx hp (tk3 hm47)) (fun s50 h50 => ?_)
                obtain ⟨w50, hx50, hp50⟩ := h50
                have hf : s50.2.2 = mH := hx50.1
                have q36 : hI s50 0 36 = (c1 : Int) := (w50.2 0 36 (by omega)).trans h36
                have hw := hp50.w
                have hnum := tkT_num (tx := tx) (n := n) (i := i' + 1)
                refine g_iload_n dX7_product_53 rfl ?_
                refine g_if_ne (tgt := 70) dX7_product_54 (by decide) (fun c54 => ?_) (fun c54 => ?_)
                · refine g_aload_n dX7_product_70 rfl ?_
                  refine g_getI dX7_product_71 tf_7_181 rfl rfl ?_
                  refine g_iconst dX7_product_74 ⟨by decide, by decide⟩ ?_
                  refine g_icmp_ne (tgt := 85) dX7_product_75 (by decide) (fun c75 => ?_) (fun c75 => ?_)
                  · refine g_aload_n dX7_product_85 rfl ?_
                    refine g_callvI dX7_product_86 tm_7_203 rfl ⟨rfl, rfl⟩ rfl (Nat.le_of_ble_eq_true rfl) (cm_faultsP (by omega) s50 hx50 hp50) (fun z86 s86 h86 => ?_)
                    refine g_ireturn dX7_product_89 (Or.inl rfl) ⟨_, rfl, ?_⟩
                    rw [if_neg (fun h => by omega)] at hR
                    obtain rfl : Sum.inl (i' + 1) = R := hR
                    exact ⟨h86.2.1, (fr.tr w50.pf (Nat.le_refl _)).tr (h86.2.2.1 c) (Nat.le_refl _), h86.1, h86.2.2.2⟩
                  · have hd1 : (tkT tx n (i' + 1)).1 = 1 := by omega
                    have hv := hp50.v (by rw [hd1]; decide)
                    have hn2 := hnum hd1
                    refine g_aload_n dX7_product_78 rfl ?_
                    refine g_getI dX7_product_79 tf_7_178 rfl rfl ?_
                    refine g_if_ne (tgt := 90) dX7_product_82 (by decide) (fun c82 => ?_) (fun c82 => ?_)
                    · refine g_aload_n dX7_product_90 rfl ?_
                      refine g_iconst dX7_product_91 ⟨by decide, by decide⟩ ?_
                      refine g_aload_n dX7_product_92 rfl ?_
                      refine g_getI dX7_product_93 tf_7_178 rfl rfl ?_
                      rw [hv]
                      have nn0 : (tkT tx n (i' + 1)).2 ≠ 0 := by omega
                      rw [if_pos ⟨hd1, nn0⟩] at hR
                      generalize hnu : (tkT tx n (i' + 1)).2 = v at *
                      refine g_callvI dX7_product_96 tm_7_213 rfl ⟨rfl, rfl⟩ rfl (Nat.le_of_ble_eq_true rfl) (cm_node (by omega) s50 hf hx50.2.2.1 q36 hoth (by omega) _ _) (fun z96 s96 h96 => ?_)
                      obtain ⟨rfl, rfl⟩ := h96
                      have rv : rI v := ⟨by omega, by omega⟩
                      have r0 : rI 0 := ⟨by decide, by decide⟩
                      have f96 : PFr oth c1 s (ndS s50 (1600 * oth + c1) c1 0 v) := w50.pf.tr (ndS_fr (by omega)) (Nat.le_refl _)
                      have hf0 := hf
                      have hf : (ndS s50 (1600 * oth + c1) c1 0 v).2.2 = mH := hf0
                      have rg96 : rgM (ndS s50 (1600 * oth + c1) c1 0 v) := ndS_rg hx50.2.1 (by omega) r0 rv
                      generalize hs96 : ndS s50 (1600 * oth + c1) c1 0 v = s96 at *
                      have n17 : hI s96 17 (1600 * oth + c1) = 0 := by rw [← hs96]; exact ndS_17 r0
                      have n18 : hI s96 18 (1600 * oth + c1) = v := by rw [← hs96]; exact ndS_18 rv
                      have n20 : hI s96 20 (1600 * oth + c1) = -1 := by rw [← hs96]; exact ndS_20
                      have n36 : hI s96 0 36 = ((c1 + 1 : Nat) : Int) := by rw [← hs96]; exact ndS_36 (by omega)
                      have n27 : hI s96 27 oth = hI s 27 oth := by rw [← hs96, ndS_o (by omega) (by omega)]; exact w50.2 27 oth (by omega)
                      have hp96 : PFi tx n (i' + 1) s96 := hp50.of (fun k hk => by rw [← hs96]; exact ndS_o (by omega) (by omega))
                      have t19 : hI s96 19 (1600 * oth + c) = hI s 19 (1600 * oth + c) := f96.o (by omega)
                      have t21 : hI s96 21 (1600 * oth + c) = hI s 21 (1600 * oth + c) := f96.o (by omega)
                      clear hs96
                      refine g_istore dX7_product_99 (by decide) rfl ?_
                      refine g_aload_n dX7_product_101 rfl ?_
                      refine g_getA dX7_product_102 tf_7_74 rfl rfl (mrf hf rfl) ?_
                      refine g_iload dX7_product_105 rfl ?_
                      refine g_iconst dX7_product_107 ⟨by decide, by decide⟩ ?_
                      refine g_zastN (1600 * oth + c1) dX7_product_108 rfl (by omega) (by omega) (by omega) ?_
                      refine g_aload_n dX7_product_109 rfl ?_
                      refine g_iload_n dX7_product_110 rfl ?_
                      refine g_iload dX7_product_111 rfl ?_
                      refine g_callvV dX7_product_113 tm_7_219 rfl ⟨rfl, rfl⟩ rfl (Nat.le_of_ble_eq_true rfl) (cm_addsL (by omega) _ (by exact hf) _ _ (lsK 0 cs) (by omega) (by omega) (by rw [hI_uI_n (by omega)]; omega) (by rw [hI_uI_n (by omega)]; omega)) (fun s113 h113 => ?_)
                      obtain rfl := h113
                      have hx96 : PFx oth n tx (uI s96 22 (1600 * oth + c1) 1) := hx.of (f96.u (by unfold scP; omega)) (rg96.u ⟨by decide, by decide⟩)
                      have e17 : hI (uI s96 22 (1600 * oth + c1) 1) 17 (1600 * oth + c1) = 0 := by rw [hI_uI_n (by omega)]; exact n17
                      have e18 : hI (uI s96 22 (1600 * oth + c1) 1) 18 (1600 * oth + c1) = v := by rw [hI_uI_n (by omega)]; exact n18
                      have hp97 : PFi tx n (i' + 1) (uI s96 22 (1600 * oth + c1) 1) := hp96.of (fun k hk => hI_uI_n (by omega))
                      have hpsu := psS_up hp50.2.1 (by rw [hd1]; decide)
                      have hpsl := psS_le tx n (i' + 1 + 1)
                      obtain ⟨f', rfl⟩ : ∃ f', f = f' + 1 := ⟨f - 1, by omega⟩
                      have hLn := LI_addN hL h36 hx96 (f96.u (by unfold scP; omega)) (j := i' + 2) (c2 := c1 + 1) (b := 1) (fl := true) (e := fun _ => vN v 1) (by omega) (by rw [hI_uI_n (by omega)]; exact n36) (by omega) (by omega) (by omega) ⟨by omega, by omega, Or.inl ⟨e17, rfl, (by show 0 ≤ hI _ 18 _ ∧ hI _ 18 _ ≤ 9999; rw [e18]; omega), (by show (fun _ => vN v 1) = fun _ => vN (hI _ 18 _) 1; rw [e18])⟩⟩ (by rw [hI_uI_n (by omega)]; exact n20) (((NmP.nodeNo (by show hI _ 17 _ ≠ 1; rw [e17]; decide)).app (NmP.skip (nn3 hm47)) (by omega) (by omega) (by omega) (by omega)).app (NmP.skip (Or.inl (by rw [hd1]; decide))) (by omega) (by omega) (by omega) (by omega)) (ls_skip (ls_skip (ls_nil (by rw [hI_uI_n (by omega), n27])) (by intro h; rw [h] at hd1; exact absurd hd1 (by decide))) (by rw [hm47]; exact ne3 (by decide))) (by omega) (by unfold FlB; rw [if_neg (by decide), if_pos rfl, if_pos rfl]; exact ⟨rfl, e17, by rw [e18]; omega⟩) (hI_uI_e ⟨by decide, by decide⟩)
                      have hpn : PFi tx n (i' + 1) (uI (uI (uI s96 22 (1600 * oth + c1) 1) 20 (lsK 0 cs) ((1600 * oth + c1 : Nat) : Int)) 21 (1600 * oth + c) ((1600 * oth + c1 : Nat) : Int)) := hp97.of (fun k hk => by rw [hI_uI_n (by omega), hI_uI_n (by omega)])
                      refine g_aload_n dX7_product_116 rfl ?_
                      refine g_callvV dX7_product_117 tm_7_200 rfl ⟨rfl, rfl⟩ rfl (Nat.le_of_ble_eq_true rfl) (cm_readsP (by omega) _ hLn.1.1 hpn (by rw [hd1]; exact ⟨by decide, by decide⟩)) (fun s117 h117 => ?_)
                      obtain ⟨w117, hx117, hp117⟩ := h117
                      refine g_goto (tgt := 17) dX7_product_120 (by decide) ?_
                      have hfin := ih (i' + 2) _ _ (some (vI z45)) (some (vI ((1600 * oth + c1 : Nat) : Int))) (LI_W hLn.1 w117 hx117) hp117 (by omega)
                      rw [List.map_append] at hfin
                      rw [← hR]
                      exact hfin
                    · refine g_aload_n dX7_product_85 rfl ?_
                      refine g_callvI dX7_product_86 tm_7_203 rfl ⟨rfl, rfl⟩ rfl (Nat.le_of_ble_eq_true rfl) (cm_faultsP (by omega) s50 hx50 hp50) (fun z86 s86 h86 => ?_)
                      refine g_ireturn dX7_product_89 (Or.inl rfl) ⟨_, rfl, ?_⟩
                      rw [if_neg (fun h => by omega)] at hR
                      obtain rfl : Sum.inl (i' + 1) = R := hR
                      exact ⟨h86.2.1, (fr.tr w50.pf (Nat.le_refl _)).tr (h86.2.2.1 c) (Nat.le_refl _), h86.1, h86.2.2.2⟩
                · exfalso; omega
        · rw [if_neg hm47] at hR
          obtain rfl : Sum.inr (cmbL 3 0 (cs.map (fun q => q.2)), i') = R := hR
          refine g_aload_n dX7_product_17 rfl ?_
          refine g_callvI dX7_product_18 tm_7_193 rfl ⟨rfl, rfl⟩ rfl (Nat.le_of_ble_eq_true rfl) (cm_isFine (by omega) _) (fun z18 s18 h18 => ?_)
          obtain ⟨h18, e18⟩ := h18
          obtain rfl := e18.symm
          refine g_if_eq (tgt := 123) dX7_product_21 (by decide) (fun c21 => ?_) (fun c21 => ?_)
          · exfalso; omega
          · refine g_aload_n dX7_product_24 rfl ?_
            refine g_bipush dX7_product_25 (by decide) ?_
            refine g_callvI dX7_product_27 tm_7_197 rfl ⟨rfl, rfl⟩ rfl (Nat.le_of_ble_eq_true rfl) (cm_isSignP (by omega) _ hp 42) (fun z27 s27 h27 => ?_)
            obtain ⟨h27, e27⟩ := h27
            obtain rfl := e27.symm
            have y27 : z27 = 0 := by rcases h27 with ⟨a, b⟩ | ⟨a, b⟩; exact absurd b (hm42); exact a
            clear h27
            refine g_if_ne (tgt := 42) dX7_product_30 (by decide) (fun c30 => ?_) (fun c30 => ?_)
            · exfalso; omega
            · refine g_aload_n dX7_product_33 rfl ?_
              refine g_bipush dX7_product_34 (by decide) ?_
              refine g_callvI dX7_product_36 tm_7_197 rfl ⟨rfl, rfl⟩ rfl (Nat.le_of_ble_eq_true rfl) (cm_isSignP (by omega) _ hp 47) (fun z36 s36 h36 => ?_)
              obtain ⟨h36, e36⟩ := h36
              obtain rfl := e36.symm
              have y36 : z36 = 0 := by rcases h36 with ⟨a, b⟩ | ⟨a, b⟩; exact absurd b (hm47); exact a
              clear h36
              refine g_if_eq (tgt := 123) dX7_product_39 (by decide) (fun c39 => ?_) (fun c39 => ?_)
              · refine g_aload_n dX7_product_123 rfl ?_
                refine g_callvI dX7_product_124 tm_7_193 rfl ⟨rfl, rfl⟩ rfl (Nat.le_of_ble_eq_true rfl) (cm_isFine (by omega) _) (fun z124 s124 h124 => ?_)
                obtain ⟨h124, e124⟩ := h124
                obtain rfl := e124.symm
                refine g_if_eq (tgt := 134) dX7_product_127 (by decide) (fun c127 => ?_) (fun c127 => ?_)
                · exfalso; omega
                · refine g_iload_n dX7_product_130 rfl ?_
                  refine g_goto (tgt := 135) dX7_product_131 (by decide) ?_
                  refine g_ireturn dX7_product_135 (Or.inl rfl) ⟨_, rfl, ?_⟩
                  exact LI_end hL hp (by omega) (by omega) (by omega) (by omega)
              · exfalso; omega
  have hf := hx0.1
  have r0 : rI 0 := ⟨by decide, by decide⟩
  have r3 : rI 3 := ⟨by decide, by decide⟩
  refine g_aload_n dX7_product_0 rfl ?_
  refine g_iconst dX7_product_1 ⟨by decide, by decide⟩ ?_
  refine g_iconst dX7_product_2 ⟨by decide, by decide⟩ ?_
  refine g_callvI dX7_product_3 tm_7_213 rfl ⟨rfl, rfl⟩ rfl (Nat.le_of_ble_eq_true rfl) (cm_node (by omega) σ hf hx0.2.2.1 hc0 hoth (by omega) _ _) (fun z3 s3 h3 => ?_)
  obtain ⟨rfl, rfl⟩ := h3
  have f3 : PFr oth c σ (ndS σ (1600 * oth + c) c 3 0) := ndS_fr (by omega)
  have rg3 : rgM (ndS σ (1600 * oth + c) c 3 0) := ndS_rg hx0.2.1 (by omega) r3 r0
  have n17 : hI (ndS σ (1600 * oth + c) c 3 0) 17 (1600 * oth + c) = 3 := ndS_17 r3
  have n18 : hI (ndS σ (1600 * oth + c) c 3 0) 18 (1600 * oth + c) = 0 := ndS_18 r0
  have n19 : hI (ndS σ (1600 * oth + c) c 3 0) 19 (1600 * oth + c) = -1 := ndS_19
  have n20 : hI (ndS σ (1600 * oth + c) c 3 0) 20 (1600 * oth + c) = -1 := ndS_20
  have n22 : hI (ndS σ (1600 * oth + c) c 3 0) 22 (1600 * oth + c) = 0 := ndS_22
  have n36 : hI (ndS σ (1600 * oth + c) c 3 0) 0 36 = ((c + 1 : Nat) : Int) := ndS_36 (by omega)
  have n27 : hI (ndS σ (1600 * oth + c) c 3 0) 27 oth = hI σ 27 oth := ndS_o (by omega) (by omega)
  have hp3 : PFi tx n i (ndS σ (1600 * oth + c) c 3 0) := hi0.of (fun k hk => ndS_o (by omega) (by omega))
  have hx3 : PFx oth n tx (ndS σ (1600 * oth + c) c 3 0) := hx0.of f3 rg3
  generalize ndS σ (1600 * oth + c) c 3 0 = s3 at *
  refine g_istore_n dX7_product_6 (by decide) rfl ?_
  refine g_aload_n dX7_product_7 rfl ?_
  refine g_iload_n dX7_product_8 rfl ?_
  refine g_aload_n dX7_product_9 rfl ?_
  refine g_iload_n dX7_product_10 rfl ?_
  refine g_callvI dX7_product_11 tm_7_223 rfl ⟨rfl, rfl⟩ rfl (Nat.le_of_ble_eq_true rfl) (hone i (c + 1) s3 hx3 hp3 n36 (by omega)) (fun z11 s11 h11 => ?_)
  have hx11 := h11.1
  have fr11 := h11.2.1
  have hf11 : s11.2.2 = mH := hx11.1
  generalize hR : pPW one (tkT tx n) i = R
  unfold pPW at hR
  rcases hone1 : one i with g | q
  · rw [hone1] at hR h11
    obtain ⟨-, -, rfl, p29⟩ := h11
    obtain rfl : Sum.inl g = R := hR
    refine g_callvV dX7_product_14 tm_7_219 rfl ⟨rfl, rfl⟩ rfl (Nat.le_of_ble_eq_true rfl) (cm_addsN (by omega) s11 _ _ (by omega)) (fun s14 h14 => ?_)
    obtain rfl := h14
    exact bad _ _ _ g hx11 (f3.tr fr11 (by omega)) p29
  · rw [hone1] at hR h11
    have q19 : hI s11 19 (1600 * oth + c) = -1 := (fr11.o (by omega)).trans n19
    have hz11 : z11 = ((1600 * oth + c + 1 : Nat) : Int) := by rw [h11.2.2.2.2.1]; omega
    have hle11 := h11.2.2.1.le
    have hLf := LI_first f3 (Nat.le_refl i) n17 n18 n20 n22 (NmP.nodeNo (by show hI s3 17 _ ≠ 1; rw [n17]; decide)) (ls_nil (by rw [n27])) h11 (by omega)
    subst hz11
    refine g_callvV dX7_product_14 tm_7_219 rfl ⟨rfl, rfl⟩ rfl (Nat.le_of_ble_eq_true rfl) (cm_addsF (by omega) s11 hf11 _ _ (by omega) (by omega)) (fun s14 h14 => ?_)
    obtain rfl := h14
    have hR2 : pLP one (tkT tx n) 650 [(q.1, false)] q.2 = R := hR
    have hfin := loop 650 q.2 _ _ none none hLf.1 hLf.2 (by omega)
    simp only [List.map_cons, List.map_nil] at hfin
    rw [hR2] at hfin
    exact hfin
