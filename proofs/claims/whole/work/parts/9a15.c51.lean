/-! THE CLASS: tryAll; what its values are -/
theorem cntB_sub {c c' : Nat → Bool} : ∀ n, (∀ j, j < n → c j = true → c' j = true) → cntB c n ≤ cntB c' n
  | 0, _ => Nat.le_refl _
  | n + 1, h => by
    have := cntB_sub n (fun j hj => h j (by omega))
    rw [cntB_s, cntB_s]
    by_cases q : c n = true
    · rw [if_pos q, if_pos (h n (by omega) q)]; omega
    · rw [if_neg q]
      split <;> omega
theorem rvC_below {n r : Nat} {ev : Nat → Den} {ed : Nat → Nat → Prop} (hn : n ≤ 12) (hS : BkS n ev ed) {mk mk' : Nat → Vl} (hm : ∀ w, vok (mk w)) (hm' : ∀ w, vok (mk' w)) (hr : r < n) (he : ∀ a, a < 10 → blN n ed r a → mk' a = mk a) : rvC n ev mk' r = rvC n ev mk r := by
  have hRV := rvC_RV hS hm'
  have key := set_val hS hm (X := envf mk' (rvC n ev mk')) (K := undK n ed r) (fun q q' a b c d => undK_cl hn hr a b c d) (fun q hq hK => ?_) (fun q a hq hK ha hed => ?_) r hr (Or.inl rfl)
  · unfold envf at key
    rw [if_neg (by omega), show 10 + r - 10 = r by omega] at key
    exact key
  · have e : envf mk' (rvC n ev mk') (10 + q) = rvC n ev mk' q := by
      unfold envf
      rw [if_neg (by omega), show 10 + q - 10 = q by omega]
    rw [e]
    exact hRV.1 q hq
  · unfold envf
    rw [if_pos ha]
    refine he a ha ?_
    rcases hK with rfl | hK
    · exact (blN_step hn hr a).mpr (Or.inl ⟨by omega, by rw [phB_w ha]; exact hed⟩)
    · unfold blN at hK ⊢
      rw [phB_r] at hK
      rw [phB_w ha]
      exact ⟨by omega, rch_tr 22 _ q _ (by omega) hK.2 (rch_up ⟨hq, hed⟩)⟩
/-- marks that differ from mk on the works of V alone -/
def VarK (V : Nat) (mo : Nat → Nat) (mk mk' : Nat → Vl) : Prop := ∀ a, (¬ hasB V a → mk' a = mk a) ∧ (hasB V a → ∃ k : Nat, k ≤ mo a ∧ mk' a = vN (k : Int) 1)
def wIx (L : List Nat) (i : Nat) : Int := match L[i]? with | some w => (w : Int) | none => -1
def kIx (mo : Nat → Nat) (L : List Nat) (i : Nat) : Nat := match L[i]? with | some w => mo w | none => 0
theorem kIx_i (mo : Nat → Nat) (L : List Nat) (i : Nat) : (match L[i]? with | some w => (mo w : Int) | none => 0) = (kIx mo L i : Int) := by
  unfold kIx
  cases L[i]? <;> rfl
theorem wIx_at {L : List Nat} {i a : Nat} (h : (a : Int) = wIx L i) : L[i]? = some a := by
  unfold wIx at h
  cases e : L[i]? with
  | none =>
    rw [e] at h
    have h : (a : Int) = -1 := h
    exact absurd h (by omega)
  | some w =>
    rw [e] at h
    have h : (a : Int) = (w : Int) := h
    rw [show w = a by omega]
theorem mem_wIx {L : List Nat} {a : Nat} (h : a ∈ L) (hl : L.length ≤ 3) : (a : Int) = wIx L 0 ∨ (a : Int) = wIx L 1 ∨ (a : Int) = wIx L 2 := by
  obtain ⟨i, hi, e⟩ := List.getElem_of_mem h
  have e2 : L[i]? = some a := by rw [List.getElem?_eq_getElem hi, e]
  have e3 : wIx L i = (a : Int) := by unfold wIx; rw [e2]
  have : i = 0 ∨ i = 1 ∨ i = 2 := by omega
  rcases this with rfl | rfl | rfl
  · exact Or.inl e3.symm
  · exact Or.inr (Or.inl e3.symm)
  · exact Or.inr (Or.inr e3.symm)
theorem wIx_mem {L : List Nat} {i a : Nat} (h : (a : Int) = wIx L i) : a ∈ L := List.mem_of_getElem? (wIx_at h)
theorem up3_in {mk : Nat → Vl} {mo : Nat → Nat} {L : List Nat} {x y z : Nat} (hx : x ≤ kIx mo L 0) (hy : y ≤ kIx mo L 1) (hz : z ≤ kIx mo L 2) (hl : L.length ≤ 3) {a : Nat} (ha : a ∈ L) : ∃ k : Nat, k ≤ mo a ∧ upI (upI (upI mk (wIx L 0) x) (wIx L 1) y) (wIx L 2) z a = vN (k : Int) 1 := by
  have hk : ∀ i, (a : Int) = wIx L i → kIx mo L i = mo a := fun i h => by
    unfold kIx
    rw [wIx_at h]
  by_cases h2 : (a : Int) = wIx L 2
  · exact ⟨z, by rw [← hk 2 h2]; exact hz, upI_e h2⟩
  · rw [upI_n h2]
    by_cases h1 : (a : Int) = wIx L 1
    · exact ⟨y, by rw [← hk 1 h1]; exact hy, upI_e h1⟩
    · rw [upI_n h1]
      by_cases h0 : (a : Int) = wIx L 0
      · exact ⟨x, by rw [← hk 0 h0]; exact hx, upI_e h0⟩
      · rcases mem_wIx ha hl with h | h | h
        · exact absurd h h0
        · exact absurd h h1
        · exact absurd h h2
theorem up3_out {mk : Nat → Vl} {L : List Nat} {x y z a : Nat} (ha : a ∉ L) : upI (upI (upI mk (wIx L 0) x) (wIx L 1) y) (wIx L 2) z a = mk a := by
  rw [upI_n (fun h => ha (wIx_mem h)), upI_n (fun h => ha (wIx_mem h)), upI_n (fun h => ha (wIx_mem h))]
theorem var_set {n r V V' : Nat} {ev : Nat → Den} {ed : Nat → Nat → Prop} (hn : n ≤ 12) (hS : BkS n ev ed) {mk : Nat → Vl} (hm : ∀ w, vok (mk w)) (hr : r < n) {mo : Nat → Nat} (hmo : ∀ a, hasB V a → mo a ≤ 20) (hV' : ∀ a, hasB V' a ↔ hasB V a ∧ blN n ed r a) {L : List Nat} (hL : ∀ a, a ∈ L ↔ hasB V' a) (hl : L.length ≤ 3) (v : Vl) : (∃ x y z : Nat, x ≤ kIx mo L 0 ∧ y ≤ kIx mo L 1 ∧ z ≤ kIx mo L 2 ∧ v = rvC n ev (upI (upI (upI mk (wIx L 0) x) (wIx L 1) y) (wIx L 2) z) r) ↔ ∃ mk', VarK V mo mk mk' ∧ v = rvC n ev mk' r := by
  have hvk : ∀ mk', VarK V mo mk mk' → ∀ a, vok (mk' a) := fun mk' h a => by
    by_cases q : hasB V a
    · obtain ⟨k, k1, k2⟩ := (h a).2 q
      have := hmo a q
      rw [k2]
      exact vN_ok ⟨by omega, by omega⟩
    · rw [(h a).1 q]; exact hm a
  have hv3 : ∀ x y z : Nat, x ≤ kIx mo L 0 → y ≤ kIx mo L 1 → z ≤ kIx mo L 2 → ∀ a, vok (upI (upI (upI mk (wIx L 0) x) (wIx L 1) y) (wIx L 2) z a) := fun x y z hx hy hz a => by
    by_cases q : a ∈ L
    · obtain ⟨k, k1, k2⟩ := up3_in (mk := mk) hx hy hz hl q
      have := hmo a ((hV' a).mp ((hL a).mp q)).1
      rw [k2]
      exact vN_ok ⟨by omega, by omega⟩
    · rw [up3_out q]; exact hm a
  constructor
  · rintro ⟨x, y, z, hx, hy, hz, e⟩
    refine ⟨fun a => if V'.testBit a = true then upI (upI (upI mk (wIx L 0) x) (wIx L 1) y) (wIx L 2) z a else if V.testBit a = true then vN 0 1 else mk a, ?_, ?_⟩
    · have hK : VarK V mo mk (fun a => if V'.testBit a = true then upI (upI (upI mk (wIx L 0) x) (wIx L 1) y) (wIx L 2) z a else if V.testBit a = true then vN 0 1 else mk a) := fun a => by
        constructor
        · intro h
          have h' : ¬ V'.testBit a = true := fun z => h ((hV' a).mp z).1
          show (if V'.testBit a = true then _ else if V.testBit a = true then _ else mk a) = mk a
          rw [if_neg h', if_neg (show ¬ V.testBit a = true from h)]
        · intro h
          by_cases h' : V'.testBit a = true
          · obtain ⟨k, k1, k2⟩ := up3_in (mk := mk) hx hy hz hl ((hL a).mpr h')
            refine ⟨k, k1, ?_⟩
            show (if V'.testBit a = true then _ else if V.testBit a = true then _ else mk a) = _
            rw [if_pos h', k2]
          · refine ⟨0, Nat.zero_le _, ?_⟩
            show (if V'.testBit a = true then _ else if V.testBit a = true then _ else mk a) = _
            rw [if_neg h', if_pos (show V.testBit a = true from h)]
            rfl
      exact hK
    · rw [e]
      have hK : VarK V mo mk (fun a => if V'.testBit a = true then upI (upI (upI mk (wIx L 0) x) (wIx L 1) y) (wIx L 2) z a else if V.testBit a = true then vN 0 1 else mk a) := fun a => by
        constructor
        · intro h
          have h' : ¬ V'.testBit a = true := fun z => h ((hV' a).mp z).1
          show (if V'.testBit a = true then _ else if V.testBit a = true then _ else mk a) = mk a
          rw [if_neg h', if_neg (show ¬ V.testBit a = true from h)]
        · intro h
          by_cases h' : V'.testBit a = true
          · obtain ⟨k, k1, k2⟩ := up3_in (mk := mk) hx hy hz hl ((hL a).mpr h')
            refine ⟨k, k1, ?_⟩
            show (if V'.testBit a = true then _ else if V.testBit a = true then _ else mk a) = _
            rw [if_pos h', k2]
          · refine ⟨0, Nat.zero_le _, ?_⟩
            show (if V'.testBit a = true then _ else if V.testBit a = true then _ else mk a) = _
            rw [if_neg h', if_pos (show V.testBit a = true from h)]
            rfl
      refine rvC_below hn hS (hvk _ hK) (hv3 x y z hx hy hz) hr (fun a ha hb => ?_)
      show _ = (if V'.testBit a = true then _ else if V.testBit a = true then _ else mk a)
      by_cases h' : V'.testBit a = true
      · rw [if_pos h']
      · have h2 : ¬ V.testBit a = true := fun z => h' ((hV' a).mpr ⟨z, hb⟩)
        rw [if_neg h', if_neg h2]
        exact up3_out (fun z => h' ((hL a).mp z))
  · rintro ⟨mk', hK, e⟩
    have ch : ∀ i, ∃ x : Nat, x ≤ kIx mo L i ∧ ∀ a : Nat, (a : Int) = wIx L i → mk' a = vN (x : Int) 1 := fun i => by
      cases hLi : L[i]? with
      | none =>
        refine ⟨0, Nat.zero_le _, fun a ha => ?_⟩
        have := wIx_at ha
        rw [hLi] at this
        cases this
      | some w =>
        have hw := (hV' w).mp ((hL w).mp (List.mem_of_getElem? hLi))
        obtain ⟨k, k1, k2⟩ := (hK w).2 hw.1
        refine ⟨k, ?_, fun a ha => ?_⟩
        · unfold kIx
          rw [hLi]
          exact k1
        · have := wIx_at ha
          rw [hLi] at this
          have e : w = a := by injection this
          rw [← e]
          exact k2
    obtain ⟨x, hx, cx⟩ := ch 0
    obtain ⟨y, hy, cy⟩ := ch 1
    obtain ⟨z, hz, cz⟩ := ch 2
    refine ⟨x, y, z, hx, hy, hz, ?_⟩
    rw [e]
    refine rvC_below hn hS (hv3 x y z hx hy hz) (hvk mk' hK) hr (fun a ha hb => ?_)
    by_cases q : hasB V a
    · have hq := (hL a).mpr ((hV' a).mpr ⟨q, hb⟩)
      by_cases h2 : (a : Int) = wIx L 2
      · rw [upI_e h2, cz a h2]
      · rw [upI_n h2]
        by_cases h1 : (a : Int) = wIx L 1
        · rw [upI_e h1, cy a h1]
        · rw [upI_n h1]
          by_cases h0 : (a : Int) = wIx L 0
          · rw [upI_e h0, cx a h0]
          · rcases mem_wIx hq hl with h | h | h
            · exact absurd h h0
            · exact absurd h h1
            · exact absurd h h2
    · rw [(hK a).1 q]
      exact (up3_out (fun z => q ((hV' a).mp ((hL a).mp z)).1)).symm
theorem cc2_tryAll {D : Nat} (hD : 9 ≤ D) {s0 : am_HS} {b : Nat} (hf : s0.2.2 = cH b) {B n : Nat} {nm : Nat → Int} {ev : Nat → Den} {ed : Nat → Nat → Prop} {ls : Prop} (hC : CB B n nm ev ed ls s0) (hS : BkS n ev ed) {W : Nat} (hWk : ∀ r a, r < n → ed r (12 + a) → a < W) {X1 mk : Nat → Vl} (hmv : ∀ w, vok (mk w)) (hX1 : XV X1 s0) (hmk : ∀ a, a < W → X1 a = mk a) (hcc : ∃ c : Nat, hI s0 5 6 = (c : Int) ∧ c < 4194304) (r : Nat) (hr : r < n) (hW10 : W ≤ 10) (V : Nat) (mo : Nat → Nat) (hV : V < 1024) (hc3 : cntB (fun w => V.testBit w) 10 ≤ 3) (hmo : ∀ a, a < 10 → hasB V a → hI s0 16 a = (mo a : Int) ∧ mo a ≤ 20) : am_Do lc D mX2_tryAll s0 [vR (some 5), vR (some (6 + B)), vI (r : Int), vI (V : Int)] (qV fun s => FrR s0 s ∧ RKc s ∧ ∃ acc, AcC acc s ∧ AccP acc (fun v => ∃ mk', VarK V mo mk mk' ∧ v = rvC n ev mk' r)) := by
  obtain ⟨d, rfl⟩ : ∃ d, D = d + 1 := ⟨D - 1, by omega⟩
  refine am_enter rfl rfl (Nat.le_of_ble_eq_true rfl) ?_
  have hB : B < 2 := hC.1
  have hn12 : n ≤ 12 := hC.2.1
  have hb10 : ∀ a, hasB V a → a < 10 := fun a h => by
    rcases Nat.lt_or_ge a 10 with q | q
    · exact q
    · unfold hasB at h
      rw [Nat.testBit_lt_two_pow (Nat.lt_of_lt_of_le (show V < 2 ^ 10 from hV) (Nat.pow_le_pow_right (by decide) q))] at h
      cases h
  obtain ⟨cc, hcc1, hcc2⟩ := id hcc
  obtain ⟨bl, l1, l2, l3⟩ := hC.2.2.2.2.2.2.1.1 r hr
  have hgl : (bl ||| 2 ^ (10 + r)) < 4194304 := or_lt22 l2 (pow_lt22 (by omega))
  have hf1 : (uL (uL s0 5 7 0) 5 8 0).2.2 = cH b := hf
  have fr1 : FrR s0 (uL (uL s0 5 7 0) 5 8 0) := ((FrR.rf s0).uL _ _ _).uL _ _ _
  have hC1 := fr1.cb hC
  have hN1 := hC1.2.2.1
  have hXs : XV X1 (uL (uL s0 5 7 0) 5 8 0) := hX1.congr (fun a ha => by rw [hL_uL_n (by omega), hL_uL_n (by omega)])
  have hA0 : AcC none (uL (uL s0 5 7 0) 5 8 0) := ⟨by rw [hL_uL_n (by omega), hL_uL_e ⟨by decide, by decide⟩], hL_uL_e ⟨by decide, by decide⟩⟩
  have hbl1 : hI (uL (uL s0 5 7 0) 5 8 0) (23 + 9 * B) r = (bl : Int) := l1
  have hV' : ∀ a, hasB (V &&& bl) a ↔ hasB V a ∧ blN n ed r a := fun a => by
    rw [← l3]
    unfold hasB
    rw [Nat.testBit_and, Bool.and_eq_true]
  have hVl : V &&& bl < 1024 := Nat.lt_of_le_of_lt Nat.and_le_left hV
  have hcn : cntB (fun w => (V &&& bl).testBit w) 10 ≤ 3 := Nat.le_trans (cntB_sub 10 (fun j _ h => ((hV' j).mp h).1)) hc3
  refine g_aload_n dX2_tryAll_0 rfl ?_
  refine g_lconst0 dX2_tryAll_1 ?_
  refine g_putL dX2_tryAll_2 tf_2_135 rfl rfl rfl ?_
  refine g_aload_n dX2_tryAll_5 rfl ?_
  refine g_lconst0 dX2_tryAll_6 ?_
  refine g_putL dX2_tryAll_7 tf_2_139 rfl rfl rfl ?_
  refine g_aload_n dX2_tryAll_10 rfl ?_
  refine g_iload_n dX2_tryAll_11 rfl ?_
  refine g_callvI dX2_tryAll_12 tm_2_142 rfl ⟨rfl, rfl⟩ (lc_b hB) (Nat.le_of_ble_eq_true rfl) (cc0_goal (by omega) (uL (uL s0 5 7 0) 5 8 0) hf1 hB n hN1 hn12 r hr bl hbl1 l2) (fun z12 s12 h12 => ?_)
  obtain ⟨h12, e12⟩ := h12
  obtain rfl := e12.symm
  subst h12
  refine g_istore dX2_tryAll_15 (by decide) rfl ?_
  refine g_aload_n dX2_tryAll_17 rfl ?_
  refine g_iload_n dX2_tryAll_18 rfl ?_
  refine g_aload_n dX2_tryAll_19 rfl ?_
  refine g_iload_n dX2_tryAll_20 rfl ?_
  refine g_callvI dX2_tryAll_21 tm_2_50 rfl ⟨rfl, rfl⟩ (lc_b hB) (Nat.le_of_ble_eq_true rfl) (cc0_belowOf (by omega) (uL (uL s0 5 7 0) 5 8 0) hf1 hB n hN1 hn12 r) (fun z21 s21 h21 => ?_)
  obtain ⟨h21, e21⟩ := h21
  obtain rfl := e21.symm
  rw [if_pos hr, hbl1] at h21
  subst h21
  refine g_iand dX2_tryAll_24 (bt_and (by omega)) ?_
  refine g_callvV dX2_tryAll_25 tm_2_159 rfl ⟨rfl, rfl⟩ rfl (Nat.le_of_ble_eq_true rfl) (cc2_vary (by omega) (uL (uL s0 5 7 0) 5 8 0) hf1 (V &&& bl) mo hVl hcn (fun a ha h => hmo a ha ((hV' a).mp h).1)) (fun s25 h25 => ?_)
  obtain ⟨vf, L, vr, vl, va⟩ := h25
  have hf2 : s25.2.2 = cH b := (congrArg Prod.snd vf.1).trans hf1
  have fr2 := fr1.tr vf.fr
  have hC2 := fr2.cb hC
  have hX2 : XV X1 s25 := hXs.congr (fun a ha => by unfold hL; rw [vf.1])
  have hLm : ∀ a, a ∈ L ↔ hasB (V &&& bl) a := fun a => (rgL_mem vr a).trans ⟨fun h => h.2, fun h => ⟨hb10 a ((hV' a).mp h).1, h⟩⟩
  have hwr : ∀ i, -1 ≤ wIx L i ∧ wIx L i < 10 := fun i => by
    unfold wIx
    cases e : L[i]? with
    | none => show -1 ≤ (-1 : Int) ∧ (-1 : Int) < 10; omega
    | some w =>
      have := ((rgL_mem vr w).mp (List.mem_of_getElem? e)).1
      show -1 ≤ (w : Int) ∧ (w : Int) < 10
      omega
  have hkr : ∀ i, kIx mo L i ≤ 20 := fun i => by
    unfold kIx
    cases e : L[i]? with
    | none => show 0 ≤ 20; omega
    | some w =>
      have hw := (rgL_mem vr w).mp (List.mem_of_getElem? e)
      exact (hmo w hw.1 ((hV' w).mp hw.2).1).2
  refine g_aload_n dX2_tryAll_28 rfl ?_
  refine g_aload_n dX2_tryAll_29 rfl ?_
  refine g_iload dX2_tryAll_30 rfl ?_
  refine g_ldc dX2_tryAll_32 ti_2_49 ⟨by decide, by decide⟩ ?_
  refine g_callvV dX2_tryAll_34 tm_2_145 rfl ⟨rfl, rfl⟩ rfl (Nat.le_of_ble_eq_true rfl) (cc2_settle (by omega) hf2 hC2 hS hX2 (bl ||| 2 ^ (10 + r)) 4194303 hgl (by decide)) (fun s34 h34 => ?_)
  obtain ⟨X2, hI2⟩ := h34
  have hcl := settle_K hC2 hI2 l3 rfl
  refine g_iconst dX2_tryAll_37 ⟨by decide, by decide⟩ ?_
  refine g_istore dX2_tryAll_38 (by decide) rfl ?_
  refine (cc2_taX (by omega) hf hC hS hWk hmv hX1 hmk hcc r hr hW10 l2 l3 ⟨hwr 0, hwr 1, hwr 2⟩ ⟨hkr 0, hkr 1, hkr 2⟩ (kIx mo L 0 + 1) 0 X2 s34 _ _ (by omega) ⟨fr2.tr hI2.1.fr, ⟨cc, (hI2.1.hI 5 6).trans ((vf.2 5 6 (by decide) (by decide)).trans hcc1), hcc2, X2, hcl, fun a => Or.inl rfl⟩, hI2.2.1, ?_, ⟨none, hI2.ac (hA0.congr (by unfold hL; rw [vf.1]) (by unfold hL; rw [vf.1])), fun q hq => ?_⟩, fun a ha _ => ?_⟩).mono ?_
  · have e0 := va 0 (by decide)
    have e1 := va 1 (by decide)
    have e2 := va 2 (by decide)
    have ei : ∀ o j, hI s34 o j = hI s25 o j := fun o j => hI2.1.hI o j
    rw [ei, ei, ei, ei, ei, ei]
    exact ⟨⟨e0.1, e1.1, e2.1⟩, e0.2.trans (kIx_i mo L 0), e1.2.trans (kIx_i mo L 1), e2.2.trans (kIx_i mo L 2)⟩
  · obtain ⟨x, y, z, h, _⟩ := hq
    exact absurd h (Nat.not_lt_zero x)
  · rw [hI2.mk (show a < 10 by omega)]
    exact hmk a ha
  · rintro res s ⟨rfl, q1, q2, acc, q3, q4⟩
    exact ⟨rfl, q1, q2, acc, q3, AccP_congr q4 (var_set hn12 hS hmv hr (fun a h => (hmo a (hb10 a h) h).2) hV' hLm vl)⟩
