/-! THE CLASS: the range by the ends -/
theorem AcC.congr {a : Acc} {s u : am_HS} (h : AcC a s) (h7 : hL u 5 7 = hL s 5 7) (h8 : hL u 5 8 = hL s 5 8) : AcC a u := by
  rcases a with _ | b
  · exact ⟨h7.trans h.1, h8.trans h.2⟩
  · exact ⟨⟨h.1.1, h7.trans h.1.2⟩, h.2.1, h8.trans h.2.2⟩
theorem SeI.ac {n B g sc i : Nat} {ev : Nat → Den} {ed : Nat → Nat → Prop} {X0 X : Nat → Vl} {σ s : am_HS} (h : SeI n B ev ed g sc X0 σ i X s) {a : Acc} (ha : AcC a σ) : AcC a s := ha.congr (h.1.2.2 5 7 (by decide) (by decide)) (h.1.2.2 5 8 (by decide) (by decide))
/-- the greatest marks under way: works below k -/
def TeI (g k : Nat) (mo : Nat → Nat) (X1 : Nat → Vl) (a0 : Acc) (s0 : am_HS) (X : Nat → Vl) (s : am_HS) : Prop := FrR s0 s ∧ (∃ c : Nat, hI s 5 6 = (c : Int) ∧ c < 4194304) ∧ XV X s ∧ (∀ a, hI s 16 a = hI s0 16 a) ∧ AcC a0 s ∧ ∀ a, a < 10 → X a = if a < k ∧ g.testBit a = true then vN (mo a : Int) 1 else X1 a
theorem cc2_tryEnds {D : Nat} (hD : 9 ≤ D) {s0 : am_HS} {b : Nat} (hf : s0.2.2 = cH b) {B n : Nat} {nm : Nat → Int} {ev : Nat → Den} {ed : Nat → Nat → Prop} {ls : Prop} (hC : CB B n nm ev ed ls s0) (hS : BkS n ev ed) {W : Nat} (hWk : ∀ r a, r < n → ed r (12 + a) → a < W) {X1 mk : Nat → Vl} (hmv : ∀ w, vok (mk w)) (hX1 : XV X1 s0) (hmk : ∀ a, a < W → X1 a = mk a) (hcc : ∃ c : Nat, hI s0 5 6 = (c : Int) ∧ c < 4194304) (r : Nat) (hr : r < n) (g : Nat) (mo : Nat → Nat) (hg : g < 1024) (hmo : ∀ a, a < 10 → hasB g a → hI s0 16 a = (mo a : Int) ∧ mo a ≤ 20) : am_Do lc D mX2_tryEnds s0 [vR (some 5), vR (some (6 + B)), vI (r : Int), vI (g : Int)] (qV fun s => FrR s0 s ∧ RKc s ∧ AcC (accS (accS none (rvC n ev mk r)) (rvC n ev (fun a => if g.testBit a = true then vN (mo a : Int) 1 else mk a) r)) s) := by
  obtain ⟨d, rfl⟩ : ∃ d, D = d + 1 := ⟨D - 1, by omega⟩
  refine am_enter rfl rfl (Nat.le_of_ble_eq_true rfl) ?_
  have hB : B < 2 := hC.1
  have hn12 : n ≤ 12 := hC.2.1
  obtain ⟨cc, hcc1, hcc2⟩ := hcc
  obtain ⟨bl, l1, l2, l3⟩ := hC.2.2.2.2.2.2.1.1 r hr
  have hgl : (bl ||| 2 ^ (10 + r)) < 4194304 := or_lt22 l2 (pow_lt22 (by omega))
  have lp : ∀ (m k : Nat) (X : Nat → Vl) (s : am_HS), k + m = 10 → TeI g k mo X1 (accS none (rvC n ev mk r)) s0 X s → am_Go lc d 2 6 0 cX2_tryEnds 38 [some (vR (some 5)), some (vR (some (6 + B))), some (vI (r : Int)), some (vI (g : Int)), some (vI ((bl ||| 2 ^ (10 + r) : Nat) : Int)), some (vI (k : Int))] [] s (qV fun s => FrR s0 s ∧ RKc s ∧ AcC (accS (accS none (rvC n ev mk r)) (rvC n ev (fun a => if g.testBit a = true then vN (mo a : Int) 1 else mk a) r)) s) := by
    intro m
    induction m with
    | zero =>
      intro k X s hk hI0
      have e : k = 10 := by omega
      subst e
      obtain ⟨f1, ⟨c, c1, c2⟩, f3, f4, f5, f6⟩ := hI0
      have hfs : s.2.2 = cH b := f1.1.trans hf
      have hCs := f1.cb hC
      have hmv2 : ∀ a, vok ((fun a => if g.testBit a = true then vN (mo a : Int) 1 else mk a) a) := fun a => by
        show vok (if g.testBit a = true then vN (mo a : Int) 1 else mk a)
        by_cases h : g.testBit a = true
        · rw [if_pos h]
          by_cases h10 : a < 10
          · have := hmo a h10 h
            exact vN_ok ⟨by omega, by omega⟩
          · exfalso
            rw [Nat.testBit_lt_two_pow (Nat.lt_of_lt_of_le (show g < 2 ^ 10 from hg) (Nat.pow_le_pow_right (by decide) (by omega)))] at h
            cases h
        · rw [if_neg h]; exact hmv a
      refine g_iload dX2_tryEnds_38 rfl ?_
      refine g_aload_n dX2_tryEnds_40 rfl ?_
      refine g_getA dX2_tryEnds_41 tf_2_21 rfl rfl (crf hfs rfl) ?_
      refine g_alen dX2_tryEnds_44 rfl (by decide) ?_
      refine g_icmp_ge (tgt := 77) dX2_tryEnds_45 (by decide) (fun c45 => ?_) (fun c45 => ?_)
      · refine g_aload_n dX2_tryEnds_77 rfl ?_
        refine g_aload_n dX2_tryEnds_78 rfl ?_
        refine g_iload dX2_tryEnds_79 rfl ?_
        refine g_ldc dX2_tryEnds_81 ti_2_49 ⟨by decide, by decide⟩ ?_
        refine g_callvV dX2_tryEnds_83 tm_2_145 rfl ⟨rfl, rfl⟩ rfl (Nat.le_of_ble_eq_true rfl) (cc2_settle (by omega) hfs hCs hS f3 (bl ||| 2 ^ (10 + r)) 4194303 hgl (by decide)) (fun s83 h83 => ?_)
        obtain ⟨X2, hI2⟩ := h83
        have hcl := settle_K hCs hI2 l3 rfl
        have hval : X2 (10 + r) = rvC n ev (fun a => if g.testBit a = true then vN (mo a : Int) 1 else mk a) r := val_K hn12 hS hWk hr hmv2 hcl (fun a ha ha10 => by
          rw [hI2.mk ha10, f6 a ha10]
          by_cases h : g.testBit a = true
          · rw [if_pos ⟨ha10, h⟩]
            show _ = if g.testBit a = true then vN (mo a : Int) 1 else mk a
            rw [if_pos h]
          · rw [if_neg (fun z => h z.2)]
            show _ = if g.testBit a = true then vN (mo a : Int) 1 else mk a
            rw [if_neg h]
            exact hmk a ha)
        obtain ⟨hvk, hvl⟩ := hI2.2.1 (10 + r) (by omega)
        rw [hval] at hvk hvl
        have hf2 : s83.2.2 = cH b := hI2.1.2.1.trans hfs
        refine g_aload_n dX2_tryEnds_86 rfl ?_
        refine g_aload_n dX2_tryEnds_87 rfl ?_
        refine g_iload_n dX2_tryEnds_88 rfl ?_
        refine g_callvL dX2_tryEnds_89 tm_2_149 rfl ⟨rfl, rfl⟩ rfl (Nat.le_of_ble_eq_true rfl) (cc2_ofRule (by omega) s83 hf2 r (by omega)) (fun z89 s89 h89 => ?_)
        obtain ⟨h89, e89⟩ := h89
        obtain rfl := e89.symm
        rw [hvl] at h89
        refine g_callvV dX2_tryEnds_92 tm_2_152 rfl ⟨rfl, rfl⟩ rfl (Nat.le_of_ble_eq_true rfl) (cc2_widen (by omega) s83 (hI2.ac f5) _ hvk h89) (fun s92 h92 => ?_)
        obtain ⟨w1, w2⟩ := h92
        refine g_return dX2_tryEnds_95 rfl ⟨rfl, ?_⟩
        exact ⟨(f1.tr hI2.1.fr).tr w1.fr, ⟨⟨X2, hI2.2.1.congr (fun a ha => w1.2.2 13 a (by omega))⟩, c, (w1.hI 5 6).trans ((hI2.1.hI 5 6).trans c1), c2⟩, w2⟩
      · exfalso; omega
    | succ m ih =>
      intro k X s hk hI0
      obtain ⟨f1, ⟨c, c1, c2⟩, f3, f4, f5, f6⟩ := hI0
      have hfs : s.2.2 = cH b := f1.1.trans hf
      have hpw := pow_lt22 (m := k) (by omega)
      refine g_iload dX2_tryEnds_38 rfl ?_
      refine g_aload_n dX2_tryEnds_40 rfl ?_
      refine g_getA dX2_tryEnds_41 tf_2_21 rfl rfl (crf hfs rfl) ?_
      refine g_alen dX2_tryEnds_44 rfl (by decide) ?_
      refine g_icmp_ge (tgt := 77) dX2_tryEnds_45 (by decide) (fun c45 => ?_) (fun c45 => ?_)
      · exfalso; omega
      · refine g_iload_n dX2_tryEnds_48 rfl ?_
        refine g_iload dX2_tryEnds_49 rfl ?_
        refine g_callsI dX2_tryEnds_51 tm_2_53 rfl ⟨Nat.le_of_ble_eq_true rfl, rfl, rfl⟩ (Nat.le_of_ble_eq_true rfl) (cc6_bit (by omega) s g k (by omega) (by omega)) (fun z51 s51 h51 => ?_)
        obtain ⟨h51, e51⟩ := h51
        obtain rfl := e51.symm
        refine g_iconst dX2_tryEnds_54 ⟨by decide, by decide⟩ ?_
        refine g_icmp_ne (tgt := 71) dX2_tryEnds_55 (by decide) (fun c55 => ?_) (fun c55 => ?_)
        · have hgk : ¬ hasB g k := fun z => h51.elim (fun w => by omega) (fun w => w.2 z)
          refine g_iinc dX2_tryEnds_71 (by decide) rfl ⟨by omega, by omega⟩ (show (k : Int) + 1 = ((k + 1 : Nat) : Int) from by omega) rfl ?_
          refine g_goto (tgt := 38) dX2_tryEnds_74 (by decide) ?_
          refine ih (k + 1) X s (by omega) ⟨f1, ⟨c, c1, c2⟩, f3, f4, f5, fun a ha => ?_⟩
          rw [f6 a ha]
          by_cases h : a < k ∧ g.testBit a = true
          · rw [if_pos h, if_pos ⟨by omega, h.2⟩]
          · rw [if_neg h, if_neg (fun z => h ⟨by
              by_cases e : a = k
              · rw [e] at z; exact absurd z.2 hgk
              · omega, z.2⟩)]
        · have hgk : hasB g k := h51.elim (fun z => z.2) (fun z => by omega)
          have hmk2 := hmo k (by omega) hgk
          refine g_aload_n dX2_tryEnds_58 rfl ?_
          refine g_iload dX2_tryEnds_59 rfl ?_
          refine g_aload_n dX2_tryEnds_61 rfl ?_
          refine g_getA dX2_tryEnds_62 tf_2_21 rfl rfl (crf hfs rfl) ?_
          refine g_iload dX2_tryEnds_65 rfl ?_
          refine g_ialdN (k) dX2_tryEnds_67 rfl (by omega) (by omega) ?_
          rw [f4 k, hmk2.1]
          refine g_callvV dX2_tryEnds_68 tm_2_156 rfl ⟨rfl, rfl⟩ rfl (Nat.le_of_ble_eq_true rfl) (cc2_tryMark (by omega) s hfs k (mo k) (by omega) (by omega) c c1 c2) (fun s68 h68 => ?_)
          subst h68
          have hXt := XV.try (w := k) (c := c ||| 2 ^ k) f3 (show mo k ≤ 1000 by omega)
          refine g_iinc dX2_tryEnds_71 (by decide) rfl ⟨by omega, by omega⟩ (show (k : Int) + 1 = ((k + 1 : Nat) : Int) from by omega) rfl ?_
          refine g_goto (tgt := 38) dX2_tryEnds_74 (by decide) ?_
          refine ih (k + 1) _ _ (by omega) ⟨(f1.uL _ _ _).uI (by omega), ⟨c ||| 2 ^ k, hI_uI_e ⟨by omega, by have := or_lt22 c2 hpw; omega⟩, or_lt22 c2 hpw⟩, hXt, fun a => ?_, f5.congr (hL_uL_n (by omega)) (hL_uL_n (by omega)), fun a ha => ?_⟩
          · rw [hI_uI_n (by omega), hI_uL]
            exact f4 a
          · by_cases e : a = k
            · subst e
              rw [upX_e, if_pos ⟨by omega, hgk⟩]
            · rw [upX_n e, f6 a ha]
              by_cases h : a < k ∧ g.testBit a = true
              · rw [if_pos h, if_pos ⟨by omega, h.2⟩]
              · rw [if_neg h, if_neg (fun z => h ⟨by omega, z.2⟩)]
  have hf1 : (uL (uL s0 5 7 0) 5 8 0).2.2 = cH b := hf
  have fr1 : FrR s0 (uL (uL s0 5 7 0) 5 8 0) := ((FrR.rf s0).uL _ _ _).uL _ _ _
  have hC1 := fr1.cb hC
  have hN1 := hC1.2.2.1
  have hXs : XV X1 (uL (uL s0 5 7 0) 5 8 0) := hX1.congr (fun a ha => by rw [hL_uL_n (by omega), hL_uL_n (by omega)])
  have hA0 : AcC none (uL (uL s0 5 7 0) 5 8 0) := ⟨by rw [hL_uL_n (by omega), hL_uL_e ⟨by decide, by decide⟩], hL_uL_e ⟨by decide, by decide⟩⟩
  have hbl1 : hI (uL (uL s0 5 7 0) 5 8 0) (23 + 9 * B) r = (bl : Int) := l1
  refine g_aload_n dX2_tryEnds_0 rfl ?_
  refine g_lconst0 dX2_tryEnds_1 ?_
  refine g_putL dX2_tryEnds_2 tf_2_135 rfl rfl rfl ?_
  refine g_aload_n dX2_tryEnds_5 rfl ?_
  refine g_lconst0 dX2_tryEnds_6 ?_
  refine g_putL dX2_tryEnds_7 tf_2_139 rfl rfl rfl ?_
  refine g_aload_n dX2_tryEnds_10 rfl ?_
  refine g_iload_n dX2_tryEnds_11 rfl ?_
  refine g_callvI dX2_tryEnds_12 tm_2_142 rfl ⟨rfl, rfl⟩ (lc_b hB) (Nat.le_of_ble_eq_true rfl) (cc0_goal (by omega) (uL (uL s0 5 7 0) 5 8 0) hf1 hB n hN1 hn12 r hr bl hbl1 l2) (fun z12 s12 h12 => ?_)
  obtain ⟨h12, e12⟩ := h12
  obtain rfl := e12.symm
  subst h12
  refine g_istore dX2_tryEnds_15 (by decide) rfl ?_
  refine g_aload_n dX2_tryEnds_17 rfl ?_
  refine g_aload_n dX2_tryEnds_18 rfl ?_
  refine g_iload dX2_tryEnds_19 rfl ?_
  refine g_ldc dX2_tryEnds_21 ti_2_49 ⟨by decide, by decide⟩ ?_
  refine g_callvV dX2_tryEnds_23 tm_2_145 rfl ⟨rfl, rfl⟩ rfl (Nat.le_of_ble_eq_true rfl) (cc2_settle (by omega) hf1 hC1 hS hXs (bl ||| 2 ^ (10 + r)) 4194303 hgl (by decide)) (fun s23 h23 => ?_)
  obtain ⟨X2, hI2⟩ := h23
  have hcl := settle_K hC1 hI2 l3 rfl
  have hval : X2 (10 + r) = rvC n ev mk r := val_K hn12 hS hWk hr hmv hcl (fun a ha ha10 => by rw [hI2.mk ha10]; exact hmk a ha)
  obtain ⟨hvk, hvl⟩ := hI2.2.1 (10 + r) (by omega)
  rw [hval] at hvk hvl
  have hf2 : s23.2.2 = cH b := hI2.1.2.1.trans hf1
  refine g_aload_n dX2_tryEnds_26 rfl ?_
  refine g_aload_n dX2_tryEnds_27 rfl ?_
  refine g_iload_n dX2_tryEnds_28 rfl ?_
  refine g_callvL dX2_tryEnds_29 tm_2_149 rfl ⟨rfl, rfl⟩ rfl (Nat.le_of_ble_eq_true rfl) (cc2_ofRule (by omega) s23 hf2 r (by omega)) (fun z29 s29 h29 => ?_)
  obtain ⟨h29, e29⟩ := h29
  obtain rfl := e29.symm
  rw [hvl] at h29
  refine g_callvV dX2_tryEnds_32 tm_2_152 rfl ⟨rfl, rfl⟩ rfl (Nat.le_of_ble_eq_true rfl) (cc2_widen (by omega) s23 (hI2.ac hA0) _ hvk h29) (fun s32 h32 => ?_)
  obtain ⟨w1, w2⟩ := h32
  refine g_iconst dX2_tryEnds_35 ⟨by decide, by decide⟩ ?_
  refine g_istore dX2_tryEnds_36 (by decide) rfl ?_
  refine lp 10 0 X2 s32 rfl ⟨(fr1.tr hI2.1.fr).tr w1.fr, ⟨cc, (w1.hI 5 6).trans ((hI2.1.hI 5 6).trans hcc1), hcc2⟩, hI2.2.1.congr (fun a ha => w1.2.2 13 a (by omega)), fun a => (w1.hI 16 a).trans (hI2.1.hI 16 a), w2, fun a ha => ?_⟩
  rw [if_neg (fun z => absurd z.1 (Nat.not_lt_zero a))]
  exact hI2.mk ha
