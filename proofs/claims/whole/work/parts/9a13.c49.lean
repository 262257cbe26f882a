/-! THE CLASS: the works that are varied -/
theorem rgL_cnt {P : Nat → Prop} {c : Nat → Bool} (hc : ∀ k, c k = true ↔ P k) : ∀ {k : Nat} {L : List Nat}, rgL P k L → L.length = cntB c k
  | 0, L, h => by
    have h : L = [] := h
    subst h
    rfl
  | k + 1, L, h => by
    rw [cntB_s]
    rcases h with ⟨h1, L2, h2, rfl⟩ | ⟨h1, h2⟩
    · rw [List.length_append, rgL_cnt hc h2, if_pos ((hc k).mpr h1)]
      rfl
    · rw [rgL_cnt hc h2, if_neg (fun z => h1 ((hc k).mp z)), Nat.add_zero]
theorem cntB_mono (c : Nat → Bool) : ∀ (m k : Nat), cntB c k ≤ cntB c (k + m)
  | 0, k => Nat.le_refl _
  | m + 1, k => by
    have := cntB_mono c m k
    rw [show k + (m + 1) = (k + m) + 1 by omega, cntB_s]
    omega
theorem rgL_mem {P : Nat → Prop} : ∀ {k : Nat} {L : List Nat}, rgL P k L → ∀ w, w ∈ L ↔ w < k ∧ P w
  | 0, L, h, w => by
    have h : L = [] := h
    subst h
    exact ⟨(fun z => by cases z), (fun z => absurd z.1 (Nat.not_lt_zero w))⟩
  | k + 1, L, h, w => by
    rcases h with ⟨h1, L2, h2, rfl⟩ | ⟨h1, h2⟩
    · rw [List.mem_append, rgL_mem h2 w, List.mem_singleton]
      constructor
      · rintro (z | rfl)
        · exact ⟨by omega, z.2⟩
        · exact ⟨by omega, h1⟩
      · rintro ⟨z1, z2⟩
        by_cases e : w = k
        · exact Or.inr e
        · exact Or.inl ⟨by omega, z2⟩
    · rw [rgL_mem h2 w]
      constructor
      · exact fun z => ⟨by omega, z.2⟩
      · rintro ⟨z1, z2⟩
        by_cases e : w = k
        · rw [e] at z2; exact absurd z2 h1
        · exact ⟨by omega, z2⟩
/-- the rows of the works that are varied -/
def VaR (s : am_HS) (mo : Nat → Nat) (L : List Nat) : Prop := ∀ i, i < 3 → hI s 17 i = (match L[i]? with | some w => (w : Int) | none => -1) ∧ hI s 18 i = (match L[i]? with | some w => (mo w : Int) | none => 0)
def VaF (σ s : am_HS) : Prop := s.2 = σ.2 ∧ ∀ o j, o ≠ 17 → o ≠ 18 → hI s o j = hI σ o j
theorem VaF.fr {σ s : am_HS} (h : VaF σ s) : FrR σ s := ⟨congrArg Prod.snd h.1, fun o j q => h.2 o j (by omega) (by omega)⟩
theorem cc2_vary {D : Nat} (hD : 2 ≤ D) (σ : am_HS) {b : Nat} (hf : σ.2.2 = cH b) (V : Nat) (mo : Nat → Nat) (hV : V < 1024) (hc3 : cntB (fun w => V.testBit w) 10 ≤ 3) (hmo : ∀ a, a < 10 → hasB V a → hI σ 16 a = (mo a : Int) ∧ mo a ≤ 20) : am_Do lc D mX2_vary σ [vR (some 5), vI (V : Int)] (qV fun s => VaF σ s ∧ ∃ L, rgL (fun w => hasB V w) 10 L ∧ L.length ≤ 3 ∧ VaR s mo L) := by
  obtain ⟨d, rfl⟩ : ∃ d, D = d + 1 := ⟨D - 1, by omega⟩
  refine am_enter rfl rfl (Nat.le_of_ble_eq_true rfl) ?_
  have hdec : ∀ k, (fun w => V.testBit w) k = true ↔ hasB V k := fun k => Iff.rfl
  have lp : ∀ (m k : Nat) (L : List Nat) (s : am_HS), k + m = 10 → VaF σ s → rgL (fun w => hasB V w) k L → VaR s mo L → am_Go lc d 2 4 0 cX2_vary 20 [some (vR (some 5)), some (vI (V : Int)), some (vI (L.length : Int)), some (vI (k : Int))] [] s (qV fun s => VaF σ s ∧ ∃ L, rgL (fun w => hasB V w) 10 L ∧ L.length ≤ 3 ∧ VaR s mo L) := by
    intro m
    induction m with
    | zero =>
      intro k L s hk hF hR hA
      have e : k = 10 := by omega
      subst e
      have hl := rgL_cnt hdec hR
      have hfs : s.2.2 = cH b := (congrArg Prod.snd hF.1).trans hf
      refine g_iload_n dX2_vary_20 rfl ?_
      refine g_aload_n dX2_vary_21 rfl ?_
      refine g_getA dX2_vary_22 tf_2_21 rfl rfl (crf hfs rfl) ?_
      refine g_alen dX2_vary_25 rfl (by decide) ?_
      refine g_icmp_ge (tgt := 84) dX2_vary_26 (by decide) (fun c26 => ?_) (fun c26 => ?_)
      · refine g_return dX2_vary_84 rfl ⟨rfl, ?_⟩
        exact ⟨hF, L, hR, by omega, hA⟩
      · exfalso; omega
    | succ m ih =>
      intro k L s hk hF hR hA
      have hfs : s.2.2 = cH b := (congrArg Prod.snd hF.1).trans hf
      have hl := rgL_cnt hdec hR
      refine g_iload_n dX2_vary_20 rfl ?_
      refine g_aload_n dX2_vary_21 rfl ?_
      refine g_getA dX2_vary_22 tf_2_21 rfl rfl (crf hfs rfl) ?_
      refine g_alen dX2_vary_25 rfl (by decide) ?_
      refine g_icmp_ge (tgt := 84) dX2_vary_26 (by decide) (fun c26 => ?_) (fun c26 => ?_)
      · exfalso; omega
      · refine g_iload_n dX2_vary_29 rfl ?_
        refine g_iload_n dX2_vary_30 rfl ?_
        refine g_callsI dX2_vary_31 tm_2_53 rfl ⟨Nat.le_of_ble_eq_true rfl, rfl, rfl⟩ (Nat.le_of_ble_eq_true rfl) (cc6_bit (by omega) s V k (by omega) (by omega)) (fun z31 s31 h31 => ?_)
        obtain ⟨h31, e31⟩ := h31
        obtain rfl := e31.symm
        refine g_iconst dX2_vary_34 ⟨by decide, by decide⟩ ?_
        refine g_icmp_ne (tgt := 78) dX2_vary_35 (by decide) (fun c35 => ?_) (fun c35 => ?_)
        · have hgk : ¬ hasB V k := fun z => h31.elim (fun w => by omega) (fun w => w.2 z)
          refine g_iinc dX2_vary_78 (by decide) rfl ⟨by omega, by omega⟩ (show (k : Int) + 1 = ((k + 1 : Nat) : Int) from by omega) rfl ?_
          refine g_goto (tgt := 20) dX2_vary_81 (by decide) ?_
          exact ih (k + 1) L s (by omega) hF (Or.inr ⟨hgk, hR⟩) hA
        · have hgk : hasB V k := h31.elim (fun z => z.2) (fun z => by omega)
          have hmk2 := hmo k (by omega) hgk
          have hR2 : rgL (fun w => hasB V w) (k + 1) (L ++ [k]) := Or.inl ⟨hgk, L, hR, rfl⟩
          have hl2 := rgL_cnt hdec hR2
          have hmn := cntB_mono (fun w => V.testBit w) m (k + 1)
          rw [show k + 1 + m = 10 by omega] at hmn
          have hll : (L ++ [k]).length = L.length + 1 := by rw [List.length_append]; rfl
          have hL3 : L.length < 3 := by omega
          refine g_iload_n dX2_vary_38 rfl ?_
          refine g_aload_n dX2_vary_39 rfl ?_
          refine g_getA dX2_vary_40 tf_2_25 rfl rfl (crf hfs rfl) ?_
          refine g_alen dX2_vary_43 rfl (by decide) ?_
          refine g_icmp_ge (tgt := 78) dX2_vary_44 (by decide) (fun c44 => ?_) (fun c44 => ?_)
          · exfalso; omega
          · refine g_iload_n dX2_vary_47 rfl ?_
            refine g_aload_n dX2_vary_48 rfl ?_
            refine g_getA dX2_vary_49 tf_2_28 rfl rfl (crf hfs rfl) ?_
            refine g_alen dX2_vary_52 rfl (by decide) ?_
            refine g_icmp_ge (tgt := 78) dX2_vary_53 (by decide) (fun c53 => ?_) (fun c53 => ?_)
            · exfalso; omega
            · refine g_aload_n dX2_vary_56 rfl ?_
              refine g_getA dX2_vary_57 tf_2_25 rfl rfl (crf hfs rfl) ?_
              refine g_iload_n dX2_vary_60 rfl ?_
              refine g_iload_n dX2_vary_61 rfl ?_
              refine g_iastN (L.length) dX2_vary_62 rfl (by omega) (by omega) ?_
              refine g_aload_n dX2_vary_63 rfl ?_
              refine g_getA dX2_vary_64 tf_2_28 rfl rfl (crf hfs rfl) ?_
              refine g_iload_n dX2_vary_67 rfl ?_
              refine g_aload_n dX2_vary_68 rfl ?_
              refine g_getA dX2_vary_69 tf_2_21 rfl rfl (crf hfs rfl) ?_
              refine g_iload_n dX2_vary_72 rfl ?_
              refine g_ialdN (k) dX2_vary_73 rfl (by omega) (by omega) ?_
              rw [hI_uI_n (by omega), hF.2 16 k (by omega) (by omega), hmk2.1]
              refine g_iastN (L.length) dX2_vary_74 rfl (by omega) (by omega) ?_
              refine g_iinc dX2_vary_75 (by decide) rfl ⟨by omega, by omega⟩ (show (L.length : Int) + 1 = ((L ++ [k]).length : Int) from by rw [hll]; omega) rfl ?_
              refine g_iinc dX2_vary_78 (by decide) rfl ⟨by omega, by omega⟩ (show (k : Int) + 1 = ((k + 1 : Nat) : Int) from by omega) rfl ?_
              refine g_goto (tgt := 20) dX2_vary_81 (by decide) ?_
              refine ih (k + 1) (L ++ [k]) _ (by omega) ⟨hF.1, fun o j h1 h2 => ?_⟩ hR2 (fun i hi => ?_)
              · rw [hI_uI_n (by omega), hI_uI_n (by omega)]
                exact hF.2 o j h1 h2
              · by_cases e : i = L.length
                · subst e
                  have hg : (L ++ [k])[L.length]? = some k := by simp
                  rw [hg, hI_uI_n (by omega), hI_uI_e ⟨by omega, by omega⟩, hI_uI_e ⟨by omega, by omega⟩]
                  exact ⟨rfl, rfl⟩
                · have hg : (L ++ [k])[i]? = L[i]? := by
                    rcases Nat.lt_or_ge i L.length with z | z
                    · rw [List.getElem?_append_left z]
                    · rw [List.getElem?_eq_none (by rw [hll]; omega), List.getElem?_eq_none z]
                  rw [hg, hI_uI_n (by omega), hI_uI_n (by omega), hI_uI_n (by omega), hI_uI_n (by omega)]
                  exact hA i hi
  refine g_aload_n dX2_vary_0 rfl ?_
  refine g_getA dX2_vary_1 tf_2_25 rfl rfl (crf (by first | exact hf | exact hf5) rfl) ?_
  refine g_iconst dX2_vary_4 ⟨by decide, by decide⟩ ?_
  refine g_callsV dX2_vary_5 tm_2_163 rfl ⟨Nat.le_of_ble_eq_true rfl, rfl, rfl⟩ (Nat.le_of_ble_eq_true rfl) (cj_fill (by omega) σ 17 3 rfl (by decide) (-1) ⟨by decide, by decide⟩) (fun s5 h5 => ?_)
  obtain ⟨f51, f52⟩ := h5
  have hf5 : s5.2.2 = cH b := (congrArg Prod.snd f51).trans hf
  refine g_aload_n dX2_vary_8 rfl ?_
  refine g_getA dX2_vary_9 tf_2_28 rfl rfl (crf (by first | exact hf | exact hf5) rfl) ?_
  refine g_iconst dX2_vary_12 ⟨by decide, by decide⟩ ?_
  refine g_callsV dX2_vary_13 tm_2_163 rfl ⟨Nat.le_of_ble_eq_true rfl, rfl, rfl⟩ (Nat.le_of_ble_eq_true rfl) (cj_fill (by omega) s5 18 3 rfl (by decide) 0 ⟨by decide, by decide⟩) (fun s13 h13 => ?_)
  obtain ⟨f131, f132⟩ := h13
  refine g_iconst dX2_vary_16 ⟨by decide, by decide⟩ ?_
  refine g_istore_n dX2_vary_17 (by decide) rfl ?_
  refine g_iconst dX2_vary_18 ⟨by decide, by decide⟩ ?_
  refine g_istore_n dX2_vary_19 (by decide) rfl ?_
  refine lp 10 0 [] s13 rfl ⟨f131.trans f51, fun o j h1 h2 => ?_⟩ rfl (fun i hi => ?_)
  · rw [f132, if_neg (fun z => h2 z.1), f52, if_neg (fun z => h1 z.1)]
  · rw [f132, if_neg (fun z => absurd z.1 (by decide)), f52, if_pos ⟨rfl, hi⟩, f132, if_pos ⟨rfl, hi⟩]
    exact ⟨rfl, rfl⟩
def upI (X : Nat → Vl) (w : Int) (v : Nat) : Nat → Vl := fun a => if (a : Int) = w then vN (v : Int) 1 else X a
theorem upI_n {X : Nat → Vl} {w : Int} {v a : Nat} (h : (a : Int) ≠ w) : upI X w v a = X a := if_neg h
theorem upI_e {X : Nat → Vl} {w : Int} {v a : Nat} (h : (a : Int) = w) : upI X w v a = vN (v : Int) 1 := if_pos h
theorem cc2_tryI {D : Nat} (hD : 2 ≤ D) (σ : am_HS) {b : Nat} (hf : σ.2.2 = cH b) (w : Int) (v : Nat) (hw : -1 ≤ w ∧ w < 10) (hv : v ≤ 1000) (c : Nat) (hc : hI σ 5 6 = (c : Int)) (hc2 : c < 4194304) {X : Nat → Vl} (hX : XV X σ) : am_Do lc D mX2_tryMark σ [vR (some 5), vI w, vI (v : Int)] (qV fun s => ∃ c2 : Nat, FrR σ s ∧ (∀ j, hI s 17 j = hI σ 17 j) ∧ (∀ j, hI s 18 j = hI σ 18 j) ∧ hI s 5 6 = (c2 : Int) ∧ c2 < 4194304 ∧ XV (upI X w v) s ∧ hL s 5 7 = hL σ 5 7 ∧ hL s 5 8 = hL σ 5 8 ∧ (∀ i, hasB c i → hasB c2 i) ∧ (0 ≤ w → hasB c2 w.toNat)) := by
  rcases Int.lt_or_le w 0 with h | h
  · refine (cc2_tryMarkN hD σ w (v : Int) h).mono ?_
    rintro res s ⟨rfl, rfl⟩
    have e : upI X w v = X := funext fun a => upI_n (by omega)
    exact ⟨rfl, c, FrR.rf _, fun _ => rfl, fun _ => rfl, hc, hc2, by rw [e]; exact hX, rfl, rfl, fun _ h => h, fun z => by omega⟩
  · obtain ⟨wn, rfl⟩ : ∃ wn : Nat, w = (wn : Int) := ⟨w.toNat, by omega⟩
    have hp := pow_lt22 (m := wn) (by omega)
    refine (cc2_tryMark hD σ hf wn v (by omega) hv c hc hc2).mono ?_
    rintro res s ⟨rfl, rfl⟩
    have e : upI X (wn : Int) v = upX X wn (vN (v : Int) 1) := funext fun a => by
      unfold upI upX
      by_cases q : a = wn
      · rw [if_pos q, if_pos (by omega)]
      · rw [if_neg q, if_neg (by omega)]
    refine ⟨rfl, c ||| 2 ^ wn, ((FrR.rf _).uL _ _ _).uI (by omega), fun j => (hI_uI_n (by omega)).trans rfl, fun j => (hI_uI_n (by omega)).trans rfl, hI_uI_e ⟨by omega, by have := or_lt22 hc2 hp; omega⟩, or_lt22 hc2 hp, ?_, hL_uL_n (by omega), hL_uL_n (by omega), fun i hi => (or_bit _ _ _).mpr (Or.inl hi), fun _ => (or_bit _ _ _).mpr (Or.inr ((pow_bit _ _).mpr (by omega)))⟩
    rw [e]
    exact XV.try hX hv
/-- the trying of all marks under way -/
def TA (n r W : Nat) (ev : Nat → Den) (ed : Nat → Nat → Prop) (w0 w1 w2 : Int) (l0 l1 l2 : Nat) (s0 : am_HS) (Pm : Nat → Prop) (mkx : Nat → Vl) (S : Vl → Prop) (X : Nat → Vl) (s : am_HS) : Prop := FrR s0 s ∧ (∃ c : Nat, hI s 5 6 = (c : Int) ∧ c < 4194304 ∧ ∃ Xs : Nat → Vl, (∀ q, q < n → undK n ed r q → Xs (10 + q) = ev q Xs) ∧ ∀ a, X a = Xs a ∨ (a < 10 ∧ hasB c a)) ∧ XV X s ∧ ((hI s 17 0 = w0 ∧ hI s 17 1 = w1 ∧ hI s 17 2 = w2) ∧ hI s 18 0 = (l0 : Int) ∧ hI s 18 1 = (l1 : Int) ∧ hI s 18 2 = (l2 : Int)) ∧ (∃ acc, AcC acc s ∧ AccP acc S) ∧ ∀ a, a < W → Pm a → X a = mkx a
theorem TA.S {n r W : Nat} {ev : Nat → Den} {ed : Nat → Nat → Prop} {w0 w1 w2 : Int} {l0 l1 l2 : Nat} {s0 s : am_HS} {Pm Pm2 : Nat → Prop} {mkx mkx2 : Nat → Vl} {S T : Vl → Prop} {X : Nat → Vl} (h : TA n r W ev ed w0 w1 w2 l0 l1 l2 s0 Pm mkx S X s) (hST : ∀ x, S x ↔ T x) (hm : ∀ a, a < W → Pm2 a → Pm a ∧ mkx a = mkx2 a) : TA n r W ev ed w0 w1 w2 l0 l1 l2 s0 Pm2 mkx2 T X s := by
  obtain ⟨h1, h2, h3, h4, ⟨acc, h5, h6⟩, h7⟩ := h
  exact ⟨h1, h2, h3, h4, ⟨acc, h5, AccP_congr h6 hST⟩, fun a ha hp => (h7 a ha (hm a ha hp).1).trans (hm a ha hp).2⟩
/-- a mark is tried -/
theorem TA.try {n r W : Nat} {ev : Nat → Den} {ed : Nat → Nat → Prop} {w0 w1 w2 : Int} {l0 l1 l2 : Nat} {s0 s u : am_HS} {Pm Pm2 : Nat → Prop} {mkx : Nat → Vl} {S : Vl → Prop} {X : Nat → Vl} (h : TA n r W ev ed w0 w1 w2 l0 l1 l2 s0 Pm mkx S X s) {c c2 : Nat} (hc : hI s 5 6 = (c : Int)) {w : Int} {v : Nat} (hw : w < 10) (g : FrR s u ∧ (∀ j, hI u 17 j = hI s 17 j) ∧ (∀ j, hI u 18 j = hI s 18 j) ∧ hI u 5 6 = (c2 : Int) ∧ c2 < 4194304 ∧ XV (upI X w v) u ∧ hL u 5 7 = hL s 5 7 ∧ hL u 5 8 = hL s 5 8 ∧ (∀ i, hasB c i → hasB c2 i) ∧ (0 ≤ w → hasB c2 w.toNat)) (hP : ∀ a, Pm2 a → (a : Int) ≠ w → Pm a) : TA n r W ev ed w0 w1 w2 l0 l1 l2 s0 Pm2 (upI mkx w v) S (upI X w v) u := by
  obtain ⟨h1, ⟨c', d1, d2, Xs, d3, d4⟩, h3, ⟨⟨e1, e2, e3⟩, e4, e5, e6⟩, ⟨acc, h5, h6⟩, h7⟩ := h
  obtain ⟨g1, g2, g3, g4, g5, g6, g7, g8, g9, g10⟩ := g
  have hcc : c' = c := by omega
  subst hcc
  refine ⟨h1.tr g1, ⟨c2, g4, g5, Xs, d3, fun a => ?_⟩, g6, ⟨⟨(g2 0).trans e1, (g2 1).trans e2, (g2 2).trans e3⟩, (g3 0).trans e4, (g3 1).trans e5, (g3 2).trans e6⟩, ⟨acc, h5.congr g7 g8, h6⟩, fun a ha hp => ?_⟩
  · by_cases e : (a : Int) = w
    · refine Or.inr ⟨by omega, ?_⟩
      have := g10 (by omega)
      rw [show w.toNat = a by omega] at this
      exact this
    · rw [upI_n e]
      exact (d4 a).elim Or.inl (fun z => Or.inr ⟨z.1, g9 a z.2⟩)
  · by_cases e : (a : Int) = w
    · rw [upI_e e, upI_e e]
    · rw [upI_n e, upI_n e]
      exact h7 a ha (hP a hp e)
