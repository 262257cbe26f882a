/-! THE CLASS: all marks tried -/
theorem cc2_taZ {d : Nat} (hd : 8 ≤ d) {s0 : am_HS} {b : Nat} (hf : s0.2.2 = cH b) {B n : Nat} {nm : Nat → Int} {ev : Nat → Den} {ed : Nat → Nat → Prop} {ls : Prop} (hC : CB B n nm ev ed ls s0) (hS : BkS n ev ed) {W : Nat} (hWk : ∀ r a, r < n → ed r (12 + a) → a < W) {X1 mk : Nat → Vl} (hmv : ∀ w, vok (mk w)) (hX1 : XV X1 s0) (hmk : ∀ a, a < W → X1 a = mk a) (hcc : ∃ c : Nat, hI s0 5 6 = (c : Int) ∧ c < 4194304) (r : Nat) (hr : r < n) (hW10 : W ≤ 10) {bl V : Nat} (l2 : bl < 4194304) (l3 : ∀ a, hasB bl a ↔ blN n ed r a) {w0 w1 w2 : Int} {k0 k1 k2 : Nat} (hw : (-1 ≤ w0 ∧ w0 < 10) ∧ (-1 ≤ w1 ∧ w1 < 10) ∧ (-1 ≤ w2 ∧ w2 < 10)) (hk : k0 ≤ 20 ∧ k1 ≤ 20 ∧ k2 ≤ 20) (mk2 : Nat → Vl) (hmv2 : ∀ a, vok (mk2 a)) (S0 : Vl → Prop) (hS0 : ∀ v, S0 v → vok v) (Q : Option am_V → am_HS → Prop) (xx yy : Int) (hq : ∀ (X : Nat → Vl) (s : am_HS) (o7 : Option am_V), TA n r W ev ed w0 w1 w2 k0 k1 k2 s0 (fun a => (a : Int) ≠ w2) mk2 (fun v => S0 v ∨ ∃ z : Nat, z ≤ k2 ∧ v = rvC n ev (upI mk2 w2 z) r) X s → am_Go lc d 2 8 0 cX2_tryAll 146 [some (vR (some 5)), some (vR (some (6 + B))), some (vI (r : Int)), some (vI (V : Int)), some (vI ((bl ||| 2 ^ (10 + r) : Nat) : Int)), some (vI xx), some (vI yy), o7] [] s Q) : ∀ (m k : Nat) (X : Nat → Vl) (s : am_HS), k + m = k2 + 1 → TA n r W ev ed w0 w1 w2 k0 k1 k2 s0 (fun a => (a : Int) ≠ w2) mk2 (fun v => S0 v ∨ ∃ z : Nat, z < k ∧ v = rvC n ev (upI mk2 w2 z) r) X s → am_Go lc d 2 8 0 cX2_tryAll 92 [some (vR (some 5)), some (vR (some (6 + B))), some (vI (r : Int)), some (vI (V : Int)), some (vI ((bl ||| 2 ^ (10 + r) : Nat) : Int)), some (vI xx), some (vI yy), some (vI (k : Int))] [] s Q := by
  have hB : B < 2 := hC.1
  have hn12 : n ≤ 12 := hC.2.1
  have hgl : (bl ||| 2 ^ (10 + r)) < 4194304 := or_lt22 l2 (pow_lt22 (by omega))
  intro m
  induction m with
  | zero =>
    intro k X s hk2 hT
    have hfs : s.2.2 = cH b := hT.1.1.trans hf
    have e18 := hT.2.2.2.1.2.2.2
    have hT2 := hT.S (T := (fun v => S0 v ∨ ∃ z : Nat, z ≤ k2 ∧ v = rvC n ev (upI mk2 w2 z) r)) (Pm2 := (fun a => (a : Int) ≠ w2)) (mkx2 := mk2) (fun x => ⟨fun h => h.elim Or.inl (fun ⟨z, z1, z2⟩ => Or.inr ⟨z, by omega, z2⟩), fun h => h.elim Or.inl (fun ⟨z, z1, z2⟩ => Or.inr ⟨z, by omega, z2⟩)⟩) (fun a _ h => ⟨h, rfl⟩)
    refine g_iload dX2_tryAll_92 rfl ?_
    refine g_aload_n dX2_tryAll_94 rfl ?_
    refine g_getA dX2_tryAll_95 tf_2_28 rfl rfl (crf hfs rfl) ?_
    refine g_iconst dX2_tryAll_98 ⟨by decide, by decide⟩ ?_
    refine g_ialdN (2) dX2_tryAll_99 rfl (by omega) (by omega) ?_
    rw [e18]
    refine g_icmp_gt (tgt := 146) dX2_tryAll_100 (by decide) (fun c100 => ?_) (fun c100 => ?_)
    · exact hq X s _ hT2
    · exfalso; omega
  | succ m ih =>
    intro k X s hk2 hT
    have hfs : s.2.2 = cH b := hT.1.1.trans hf
    have hT0 := hT
    obtain ⟨h1, ⟨c, c1, c2, Xs, c3, c4⟩, h3, ⟨⟨e1, e2, e3⟩, e4, e5, e6⟩, h5, h7⟩ := hT
    refine g_iload dX2_tryAll_92 rfl ?_
    refine g_aload_n dX2_tryAll_94 rfl ?_
    refine g_getA dX2_tryAll_95 tf_2_28 rfl rfl (crf hfs rfl) ?_
    refine g_iconst dX2_tryAll_98 ⟨by decide, by decide⟩ ?_
    refine g_ialdN (2) dX2_tryAll_99 rfl (by omega) (by omega) ?_
    rw [e6]
    refine g_icmp_gt (tgt := 146) dX2_tryAll_100 (by decide) (fun c100 => ?_) (fun c100 => ?_)
    · exfalso; omega
    · refine g_aload_n dX2_tryAll_103 rfl ?_
      refine g_aload_n dX2_tryAll_104 rfl ?_
      refine g_getA dX2_tryAll_105 tf_2_25 rfl rfl (crf hfs rfl) ?_
      refine g_iconst dX2_tryAll_108 ⟨by decide, by decide⟩ ?_
      refine g_ialdN (2) dX2_tryAll_109 rfl (by omega) (by omega) ?_
      rw [e3]
      refine g_iload dX2_tryAll_110 rfl ?_
      refine g_callvV dX2_tryAll_112 tm_2_156 rfl ⟨rfl, rfl⟩ rfl (Nat.le_of_ble_eq_true rfl) (cc2_tryI (by omega) s hfs w2 k hw.2.2 (by omega) c c1 c2 h3) (fun s112 h112 => ?_)
      obtain ⟨cn, g⟩ := h112
      have hTu := hT0.try (Pm2 := fun a => True) c1 hw.2.2.2 g (fun a _ h => h)
      obtain ⟨y1, y2, y3, y4, y5, y6, y7, y8, y9, y10⟩ := g
      obtain ⟨t1, ⟨cu, u1, u2, Xs2, u3, u4⟩, t3, t4, ⟨acc, t5, t6⟩, t7⟩ := hTu
      have hcu : cu = cn := by omega
      subst hcu
      have hfu : s112.2.2 = cH b := t1.1.trans hf
      have hCu := t1.cb hC
      refine g_aload_n dX2_tryAll_115 rfl ?_
      refine g_aload_n dX2_tryAll_116 rfl ?_
      refine g_iload dX2_tryAll_117 rfl ?_
      refine g_aload_n dX2_tryAll_119 rfl ?_
      refine g_getI dX2_tryAll_120 tf_2_128 rfl rfl ?_
      rw [y4]
      refine g_callvV dX2_tryAll_123 tm_2_145 rfl ⟨rfl, rfl⟩ rfl (Nat.le_of_ble_eq_true rfl) (cc2_settle (by omega) hfu hCu hS t3 (bl ||| 2 ^ (10 + r)) cu hgl u2) (fun s123 h123 => ?_)
      obtain ⟨X2, hI2⟩ := h123
      have hcl := settle_keep hCu hS hr u3 u4 hI2 l3 rfl
      have hmv3 : ∀ a, vok (upI mk2 w2 k a) := fun a => by
        by_cases q : (a : Int) = w2
        · rw [upI_e q]; exact vN_ok ⟨by omega, by omega⟩
        · rw [upI_n q]; exact hmv2 a
      have hval : X2 (10 + r) = rvC n ev (upI mk2 w2 k) r := val_K hn12 hS hWk hr hmv3 hcl (fun a ha ha10 => by
        rw [hI2.mk ha10]
        exact t7 a ha trivial)
      obtain ⟨hvk, hvl⟩ := hI2.2.1 (10 + r) (by omega)
      rw [hval] at hvk hvl
      have hf2 : s123.2.2 = cH b := hI2.1.2.1.trans hfu
      refine g_aload_n dX2_tryAll_126 rfl ?_
      refine g_iconst dX2_tryAll_127 ⟨by decide, by decide⟩ ?_
      refine g_putI dX2_tryAll_128 tf_2_128 rfl rfl rfl ?_
      refine g_aload_n dX2_tryAll_131 rfl ?_
      refine g_aload_n dX2_tryAll_132 rfl ?_
      refine g_iload_n dX2_tryAll_133 rfl ?_
      refine g_callvL dX2_tryAll_134 tm_2_149 rfl ⟨rfl, rfl⟩ rfl (Nat.le_of_ble_eq_true rfl) (cc2_ofRule (by omega) (uI s123 5 6 0) hf2 r (by omega)) (fun z134 s134 h134 => ?_)
      obtain ⟨h134, e134⟩ := h134
      obtain rfl := e134.symm
      rw [hL_uI, hvl] at h134
      refine g_callvV dX2_tryAll_137 tm_2_152 rfl ⟨rfl, rfl⟩ rfl (Nat.le_of_ble_eq_true rfl) (cc2_widen (by omega) (uI s123 5 6 0) ((hI2.ac t5).congr rfl rfl) _ hvk h134) (fun s137 h137 => ?_)
      obtain ⟨wi1, wi2⟩ := h137
      refine g_iinc dX2_tryAll_140 (by decide) rfl ⟨by omega, by omega⟩ (show (k : Int) + 1 = ((k + 1 : Nat) : Int) from by omega) rfl ?_
      refine g_goto (tgt := 92) dX2_tryAll_143 (by decide) ?_
      refine ih (k + 1) X2 s137 (by omega) ⟨(t1.tr (hI2.1.fr.uI (by omega))).tr wi1.fr, ⟨0, (wi1.hI 5 6).trans (hI_uI_e ⟨by decide, by decide⟩), by decide, X2, hcl, fun a => Or.inl rfl⟩, hI2.2.1.congr (fun a ha => (wi1.2.2 13 a (by omega)).trans rfl), ?_, ⟨_, wi2, AccP_congr (AccP_S t6 hvk (fun v hv => hv.elim (hS0 v) (fun ⟨z, _, z2⟩ => ?_))) (fun v => ?_)⟩, fun a ha hp => ?_⟩
      · have ei : ∀ o j, o ≠ 5 → hI s137 o j = hI s112 o j := fun o j h => (wi1.hI o j).trans ((hI_uI_n (by omega)).trans (hI2.1.hI o j))
        rw [ei 17 0 (by decide), ei 17 1 (by decide), ei 17 2 (by decide), ei 18 0 (by decide), ei 18 1 (by decide), ei 18 2 (by decide)]
        exact t4
      · rw [z2]
        refine (rvC_RV hS (fun a => ?_)).2.2 r
        by_cases q : (a : Int) = w2
        · rw [upI_e q]; exact vN_ok ⟨by omega, by omega⟩
        · rw [upI_n q]; exact hmv2 a
      · constructor
        · rintro ((h | ⟨z, z1, z2⟩) | h)
          · exact Or.inl h
          · exact Or.inr ⟨z, by omega, z2⟩
          · exact Or.inr ⟨k, by omega, h⟩
        · rintro (h | ⟨z, z1, z2⟩)
          · exact Or.inl (Or.inl h)
          · by_cases e : z = k
            · subst e; exact Or.inr z2
            · exact Or.inl (Or.inr ⟨z, by omega, z2⟩)
      · rw [hI2.mk (show a < 10 by omega), t7 a ha trivial]
        exact upI_n hp
theorem cc2_taY {d : Nat} (hd : 8 ≤ d) {s0 : am_HS} {b : Nat} (hf : s0.2.2 = cH b) {B n : Nat} {nm : Nat → Int} {ev : Nat → Den} {ed : Nat → Nat → Prop} {ls : Prop} (hC : CB B n nm ev ed ls s0) (hS : BkS n ev ed) {W : Nat} (hWk : ∀ r a, r < n → ed r (12 + a) → a < W) {X1 mk : Nat → Vl} (hmv : ∀ w, vok (mk w)) (hX1 : XV X1 s0) (hmk : ∀ a, a < W → X1 a = mk a) (hcc : ∃ c : Nat, hI s0 5 6 = (c : Int) ∧ c < 4194304) (r : Nat) (hr : r < n) (hW10 : W ≤ 10) {bl V : Nat} (l2 : bl < 4194304) (l3 : ∀ a, hasB bl a ↔ blN n ed r a) {w0 w1 w2 : Int} {k0 k1 k2 : Nat} (hw : (-1 ≤ w0 ∧ w0 < 10) ∧ (-1 ≤ w1 ∧ w1 < 10) ∧ (-1 ≤ w2 ∧ w2 < 10)) (hk : k0 ≤ 20 ∧ k1 ≤ 20 ∧ k2 ≤ 20) (mk1 : Nat → Vl) (hmv1 : ∀ a, vok (mk1 a)) (S0 : Vl → Prop) (hS0 : ∀ v, S0 v → vok v) (Q : Option am_V → am_HS → Prop) (xx : Int) (hq : ∀ (X : Nat → Vl) (s : am_HS) (o6 o7 : Option am_V), TA n r W ev ed w0 w1 w2 k0 k1 k2 s0 (fun a => (a : Int) ≠ w1 ∧ (a : Int) ≠ w2) mk1 (fun v => S0 v ∨ ∃ y z : Nat, y ≤ k1 ∧ z ≤ k2 ∧ v = rvC n ev (upI (upI mk1 w1 y) w2 z) r) X s → am_Go lc d 2 8 0 cX2_tryAll 152 [some (vR (some 5)), some (vR (some (6 + B))), some (vI (r : Int)), some (vI (V : Int)), some (vI ((bl ||| 2 ^ (10 + r) : Nat) : Int)), some (vI xx), o6, o7] [] s Q) : ∀ (m k : Nat) (X : Nat → Vl) (s : am_HS) (o7 : Option am_V), k + m = k1 + 1 → TA n r W ev ed w0 w1 w2 k0 k1 k2 s0 (fun a => (a : Int) ≠ w1 ∧ (a : Int) ≠ w2) mk1 (fun v => S0 v ∨ ∃ y z : Nat, y < k ∧ z ≤ k2 ∧ v = rvC n ev (upI (upI mk1 w1 y) w2 z) r) X s → am_Go lc d 2 8 0 cX2_tryAll 66 [some (vR (some 5)), some (vR (some (6 + B))), some (vI (r : Int)), some (vI (V : Int)), some (vI ((bl ||| 2 ^ (10 + r) : Nat) : Int)), some (vI xx), some (vI (k : Int)), o7] [] s Q := by
  have hB : B < 2 := hC.1
  intro m
  induction m with
  | zero =>
    intro k X s o7 hk2 hT
    have hfs : s.2.2 = cH b := hT.1.1.trans hf
    have e18 := hT.2.2.2.1.2.2.1
    have hT2 := hT.S (T := (fun v => S0 v ∨ ∃ y z : Nat, y ≤ k1 ∧ z ≤ k2 ∧ v = rvC n ev (upI (upI mk1 w1 y) w2 z) r)) (Pm2 := (fun a => (a : Int) ≠ w1 ∧ (a : Int) ≠ w2)) (mkx2 := mk1) (fun x => ⟨fun h => h.elim Or.inl (fun ⟨y, z, z1, z2⟩ => Or.inr ⟨y, z, by omega, z2⟩), fun h => h.elim Or.inl (fun ⟨y, z, z1, z2⟩ => Or.inr ⟨y, z, by omega, z2⟩)⟩) (fun a _ h => ⟨h, rfl⟩)
    refine g_iload dX2_tryAll_66 rfl ?_
    refine g_aload_n dX2_tryAll_68 rfl ?_
    refine g_getA dX2_tryAll_69 tf_2_28 rfl rfl (crf hfs rfl) ?_
    refine g_iconst dX2_tryAll_72 ⟨by decide, by decide⟩ ?_
    refine g_ialdN (1) dX2_tryAll_73 rfl (by omega) (by omega) ?_
    rw [e18]
    refine g_icmp_gt (tgt := 152) dX2_tryAll_74 (by decide) (fun c74 => ?_) (fun c74 => ?_)
    · exact hq X s _ _ hT2
    · exfalso; omega
  | succ m ih =>
    intro k X s o7 hk2 hT
    have hfs : s.2.2 = cH b := hT.1.1.trans hf
    have hT0 := hT
    obtain ⟨h1, ⟨c, c1, c2, Xs, c3, c4⟩, h3, ⟨⟨e1, e2, e3⟩, e4, e5, e6⟩, h5, h7⟩ := hT
    refine g_iload dX2_tryAll_66 rfl ?_
    refine g_aload_n dX2_tryAll_68 rfl ?_
    refine g_getA dX2_tryAll_69 tf_2_28 rfl rfl (crf hfs rfl) ?_
    refine g_iconst dX2_tryAll_72 ⟨by decide, by decide⟩ ?_
    refine g_ialdN (1) dX2_tryAll_73 rfl (by omega) (by omega) ?_
    rw [e5]
    refine g_icmp_gt (tgt := 152) dX2_tryAll_74 (by decide) (fun c74 => ?_) (fun c74 => ?_)
    · exfalso; omega
    · refine g_aload_n dX2_tryAll_77 rfl ?_
      refine g_aload_n dX2_tryAll_78 rfl ?_
      refine g_getA dX2_tryAll_79 tf_2_25 rfl rfl (crf hfs rfl) ?_
      refine g_iconst dX2_tryAll_82 ⟨by decide, by decide⟩ ?_
      refine g_ialdN (1) dX2_tryAll_83 rfl (by omega) (by omega) ?_
      rw [e2]
      refine g_iload dX2_tryAll_84 rfl ?_
      refine g_callvV dX2_tryAll_86 tm_2_156 rfl ⟨rfl, rfl⟩ rfl (Nat.le_of_ble_eq_true rfl) (cc2_tryI (by omega) s hfs w1 k hw.2.1 (by omega) c c1 c2 h3) (fun s86 h86 => ?_)
      obtain ⟨cn, g⟩ := h86
      have hTu := hT0.try (Pm2 := (fun a => (a : Int) ≠ w2)) c1 hw.2.1.2 g (fun a h2 h => ⟨h, h2⟩)
      refine g_iconst dX2_tryAll_89 ⟨by decide, by decide⟩ ?_
      refine g_istore dX2_tryAll_90 (by decide) rfl ?_
      refine cc2_taZ hd hf hC hS hWk hmv hX1 hmk hcc r hr hW10 l2 l3 hw hk (upI mk1 w1 k) (fun a => by
        by_cases q : (a : Int) = w1
        · rw [upI_e q]; exact vN_ok ⟨by omega, by omega⟩
        · rw [upI_n q]; exact hmv1 a) (fun v => S0 v ∨ ∃ y z : Nat, y < k ∧ z ≤ k2 ∧ v = rvC n ev (upI (upI mk1 w1 y) w2 z) r) (fun v hv => hv.elim (hS0 v) (fun ⟨y, z, y1, z1, z2⟩ => ?_)) Q _ _ (fun X3 s3 o7b hT3 => ?_) (k2 + 1) 0 _ s86 (by omega) (hTu.S (fun v => ⟨Or.inl, fun h => h.elim id (fun ⟨z, z1, _⟩ => absurd z1 (Nat.not_lt_zero z))⟩) (fun a _ h => ⟨h, rfl⟩))
      · rw [z2]
        refine (rvC_RV hS (fun a => ?_)).2.2 r
        by_cases q : (a : Int) = w2
        · rw [upI_e q]; exact vN_ok ⟨by omega, by omega⟩
        · rw [upI_n q]
          by_cases q1 : (a : Int) = w1
          · rw [upI_e q1]; exact vN_ok ⟨by omega, by omega⟩
          · rw [upI_n q1]; exact hmv1 a
      · refine g_iinc dX2_tryAll_146 (by decide) rfl ⟨by omega, by omega⟩ (show (k : Int) + 1 = ((k + 1 : Nat) : Int) from by omega) rfl ?_
        refine g_goto (tgt := 66) dX2_tryAll_149 (by decide) ?_
        refine ih (k + 1) X3 s3 o7b (by omega) (hT3.S (fun v => ?_) (fun a _ h => ⟨h.2, upI_n h.1⟩))
        constructor
        · rintro ((h | ⟨y, z, z1, z2⟩) | ⟨z, z1, z2⟩)
          · exact Or.inl h
          · exact Or.inr ⟨y, z, by omega, z2⟩
          · exact Or.inr ⟨k, z, by omega, z1, z2⟩
        · rintro (h | ⟨y, z, z1, z2⟩)
          · exact Or.inl (Or.inl h)
          · by_cases e : y = k
            · subst e; exact Or.inr ⟨z, z2⟩
            · exact Or.inl (Or.inr ⟨y, z, by omega, z2⟩)
theorem cc2_taX {d : Nat} (hd : 8 ≤ d) {s0 : am_HS} {b : Nat} (hf : s0.2.2 = cH b) {B n : Nat} {nm : Nat → Int} {ev : Nat → Den} {ed : Nat → Nat → Prop} {ls : Prop} (hC : CB B n nm ev ed ls s0) (hS : BkS n ev ed) {W : Nat} (hWk : ∀ r a, r < n → ed r (12 + a) → a < W) {X1 mk : Nat → Vl} (hmv : ∀ w, vok (mk w)) (hX1 : XV X1 s0) (hmk : ∀ a, a < W → X1 a = mk a) (hcc : ∃ c : Nat, hI s0 5 6 = (c : Int) ∧ c < 4194304) (r : Nat) (hr : r < n) (hW10 : W ≤ 10) {bl V : Nat} (l2 : bl < 4194304) (l3 : ∀ a, hasB bl a ↔ blN n ed r a) {w0 w1 w2 : Int} {k0 k1 k2 : Nat} (hw : (-1 ≤ w0 ∧ w0 < 10) ∧ (-1 ≤ w1 ∧ w1 < 10) ∧ (-1 ≤ w2 ∧ w2 < 10)) (hk : k0 ≤ 20 ∧ k1 ≤ 20 ∧ k2 ≤ 20) : ∀ (m k : Nat) (X : Nat → Vl) (s : am_HS) (o6 o7 : Option am_V), k + m = k0 + 1 → TA n r W ev ed w0 w1 w2 k0 k1 k2 s0 (fun a => (a : Int) ≠ w0 ∧ (a : Int) ≠ w1 ∧ (a : Int) ≠ w2) mk (fun v => ∃ x y z : Nat, x < k ∧ y ≤ k1 ∧ z ≤ k2 ∧ v = rvC n ev (upI (upI (upI mk w0 x) w1 y) w2 z) r) X s → am_Go lc d 2 8 0 cX2_tryAll 40 [some (vR (some 5)), some (vR (some (6 + B))), some (vI (r : Int)), some (vI (V : Int)), some (vI ((bl ||| 2 ^ (10 + r) : Nat) : Int)), some (vI (k : Int)), o6, o7] [] s (qV fun s => FrR s0 s ∧ RKc s ∧ ∃ acc, AcC acc s ∧ AccP acc (fun v => ∃ x y z : Nat, x ≤ k0 ∧ y ≤ k1 ∧ z ≤ k2 ∧ v = rvC n ev (upI (upI (upI mk w0 x) w1 y) w2 z) r)) := by
  have hB : B < 2 := hC.1
  intro m
  induction m with
  | zero =>
    intro k X s o6 o7 hk2 hT
    have hfs : s.2.2 = cH b := hT.1.1.trans hf
    have e18 := hT.2.2.2.1.2.1
    have hT2 := hT.S (T := (fun v => ∃ x y z : Nat, x ≤ k0 ∧ y ≤ k1 ∧ z ≤ k2 ∧ v = rvC n ev (upI (upI (upI mk w0 x) w1 y) w2 z) r)) (Pm2 := (fun a => (a : Int) ≠ w0 ∧ (a : Int) ≠ w1 ∧ (a : Int) ≠ w2)) (mkx2 := mk) (fun v => ⟨fun ⟨x, y, z, z1, z2⟩ => ⟨x, y, z, by omega, z2⟩, fun ⟨x, y, z, z1, z2⟩ => ⟨x, y, z, by omega, z2⟩⟩) (fun a _ h => ⟨h, rfl⟩)
    obtain ⟨h1, ⟨c, c1, c2, _⟩, h3, _, h5, _⟩ := hT2
    refine g_iload dX2_tryAll_40 rfl ?_
    refine g_aload_n dX2_tryAll_42 rfl ?_
    refine g_getA dX2_tryAll_43 tf_2_28 rfl rfl (crf hfs rfl) ?_
    refine g_iconst dX2_tryAll_46 ⟨by decide, by decide⟩ ?_
    refine g_ialdN (0) dX2_tryAll_47 rfl (by omega) (by omega) ?_
    rw [e18]
    refine g_icmp_gt (tgt := 158) dX2_tryAll_48 (by decide) (fun c48 => ?_) (fun c48 => ?_)
    · refine g_return dX2_tryAll_158 rfl ⟨rfl, ?_⟩
      exact ⟨h1, ⟨⟨X, h3⟩, c, c1, c2⟩, h5⟩
    · exfalso; omega
  | succ m ih =>
    intro k X s o6 o7 hk2 hT
    have hfs : s.2.2 = cH b := hT.1.1.trans hf
    have hT0 := hT
    obtain ⟨h1, ⟨c, c1, c2, Xs, c3, c4⟩, h3, ⟨⟨e1, e2, e3⟩, e4, e5, e6⟩, h5, h7⟩ := hT
    refine g_iload dX2_tryAll_40 rfl ?_
    refine g_aload_n dX2_tryAll_42 rfl ?_
    refine g_getA dX2_tryAll_43 tf_2_28 rfl rfl (crf hfs rfl) ?_
    refine g_iconst dX2_tryAll_46 ⟨by decide, by decide⟩ ?_
    refine g_ialdN (0) dX2_tryAll_47 rfl (by omega) (by omega) ?_
    rw [e4]
    refine g_icmp_gt (tgt := 158) dX2_tryAll_48 (by decide) (fun c48 => ?_) (fun c48 => ?_)
    · exfalso; omega
    · refine g_aload_n dX2_tryAll_51 rfl ?_
      refine g_aload_n dX2_tryAll_52 rfl ?_
      refine g_getA dX2_tryAll_53 tf_2_25 rfl rfl (crf hfs rfl) ?_
      refine g_iconst dX2_tryAll_56 ⟨by decide, by decide⟩ ?_
      refine g_ialdN (0) dX2_tryAll_57 rfl (by omega) (by omega) ?_
      rw [e1]
      refine g_iload dX2_tryAll_58 rfl ?_
      refine g_callvV dX2_tryAll_60 tm_2_156 rfl ⟨rfl, rfl⟩ rfl (Nat.le_of_ble_eq_true rfl) (cc2_tryI (by omega) s hfs w0 k hw.1 (by omega) c c1 c2 h3) (fun s60 h60 => ?_)
      obtain ⟨cn, g⟩ := h60
      have hTu := hT0.try (Pm2 := (fun a => (a : Int) ≠ w1 ∧ (a : Int) ≠ w2)) c1 hw.1.2 g (fun a h2 h => ⟨h, h2.1, h2.2⟩)
      refine g_iconst dX2_tryAll_63 ⟨by decide, by decide⟩ ?_
      refine g_istore dX2_tryAll_64 (by decide) rfl ?_
      refine cc2_taY hd hf hC hS hWk hmv hX1 hmk hcc r hr hW10 l2 l3 hw hk (upI mk w0 k) (fun a => by
        by_cases q : (a : Int) = w0
        · rw [upI_e q]; exact vN_ok ⟨by omega, by omega⟩
        · rw [upI_n q]; exact hmv a) (fun v => ∃ x y z : Nat, x < k ∧ y ≤ k1 ∧ z ≤ k2 ∧ v = rvC n ev (upI (upI (upI mk w0 x) w1 y) w2 z) r) (fun v hv => ?_) _ _ (fun X3 s3 o6b o7b hT3 => ?_) (k1 + 1) 0 _ s60 _ (by omega) (hTu.S (fun v => ⟨Or.inl, fun h => h.elim id (fun ⟨y, z, z1, _⟩ => absurd z1 (Nat.not_lt_zero y))⟩) (fun a _ h => ⟨h, rfl⟩))
      · obtain ⟨x, y, z, x1, y1, z1, z2⟩ := hv
        rw [z2]
        refine (rvC_RV hS (fun a => ?_)).2.2 r
        by_cases q : (a : Int) = w2
        · rw [upI_e q]; exact vN_ok ⟨by omega, by omega⟩
        · rw [upI_n q]
          by_cases q1 : (a : Int) = w1
          · rw [upI_e q1]; exact vN_ok ⟨by omega, by omega⟩
          · rw [upI_n q1]
            by_cases q0 : (a : Int) = w0
            · rw [upI_e q0]; exact vN_ok ⟨by omega, by omega⟩
            · rw [upI_n q0]; exact hmv a
      · refine g_iinc dX2_tryAll_152 (by decide) rfl ⟨by omega, by omega⟩ (show (k : Int) + 1 = ((k + 1 : Nat) : Int) from by omega) rfl ?_
        refine g_goto (tgt := 40) dX2_tryAll_155 (by decide) ?_
        refine ih (k + 1) X3 s3 _ _ (by omega) (hT3.S (fun v => ?_) (fun a _ h => ⟨⟨h.2.1, h.2.2⟩, upI_n h.1⟩))
        constructor
        · rintro (⟨x, y, z, z1, z2⟩ | ⟨y, z, z1, z2⟩)
          · exact ⟨x, y, z, by omega, z2⟩
          · exact ⟨k, y, z, by omega, z1, z2⟩
        · rintro ⟨x, y, z, z1, z2⟩
          by_cases e : x = k
          · subst e; exact Or.inr ⟨y, z, z2⟩
          · exact Or.inl ⟨x, y, z, by omega, z2⟩
