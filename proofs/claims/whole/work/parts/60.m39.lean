/-! THE REFERENCE: whether anyone has less -/
def ltV (a b : Vl) : Prop := match a, b with
  | some (some x), some (some y) => x.1 * y.2 < y.1 * x.2
  | _, _ => False
def lsP (nm nm2 : Nat → Int) (n : Nat) (rv rv2 : Nat → Nat → Vl) (p r : Nat) : Prop := ∃ o : Nat, fdS nm n (nm2 r) = (o : Int) ∧ ltV (rv2 p r) (rv p o)
theorem ltV_n1 {a b : Vl} {z U W : Int} (h : vt a z U W) (hz : z ≠ 1) : ¬ ltV a b := by
  intro hl
  rcases a with _ | _ | x
  · exact hl
  · exact hl
  · exact hz h.1
theorem ltV_n2 {a b : Vl} {z U W : Int} (h : vt b z U W) (hz : z ≠ 1) : ¬ ltV a b := by
  intro hl
  rcases b with _ | _ | x
  · rcases a with _ | _ | y <;> exact hl
  · rcases a with _ | _ | y <;> exact hl
  · exact hz h.1
theorem ltV_i {a b : Vl} {z U W z2 U2 W2 : Int} (h : vt a z U W) (h2 : vt b z2 U2 W2) (hz : z = 1) (hz2 : z2 = 1) : ltV a b ↔ U * W2 < U2 * W := by
  have e1 := vt_1 h hz
  have e2 := vt_1 h2 hz2
  rw [e1, e2]
  exact Iff.rfl
theorem less_in {d : Nat} (hD : 768 ≤ d) {N n N2 n2 : Nat} {nm nm2 : Nat → Int} {ev2 : Nat → Den} {ed2 : Nat → Nat → Prop} {ls2 : Prop} {σ : am_HS} (hf0 : σ.2.2 = mH) (hb0 : rgM σ) (hN : N < 2) (hn12 : n ≤ 12) (hn : hI σ 23 N = (n : Int)) (hnm : ∀ r, r < n → hI σ 24 (12 * N + r) = nm r) (hB : MB N2 n2 nm2 ev2 ed2 ls2 σ) (hnow : hI σ 0 42 = (N2 : Int)) (hS : BkS n2 ev2 ed2) (P : Nat) (hP : hI σ 0 1 = (P : Int)) (hP6 : P ≤ 6) (rv : Nat → Nat → Vl) (hrv : ∀ p j, vok (rv p j)) (hO : OT rv n P 0 σ) (p : Nat) (hp : p < P) (hnext : ∀ (s : am_HS) (o3 o4 : Option am_V), FrM σ s → KpO σ s → (∀ r, r < n2 → ¬ lsP nm nm2 n rv (fun q => rvC n2 ev2 (mkP σ q)) p r) → am_Go lm d 7 5 2 cX7_isLess 134 [some (vR (some 0)), some (vI (N : Int)), some (vI (p : Int)), o3, o4] [] s (qI fun z u => (z = 1 ∧ (∃ p r, p < P ∧ r < n2 ∧ lsP nm nm2 n rv (fun q => rvC n2 ev2 (mkP σ q)) p r) ∨ z = 0 ∧ ¬ (∃ p r, p < P ∧ r < n2 ∧ lsP nm nm2 n rv (fun q => rvC n2 ev2 (mkP σ q)) p r)) ∧ FrM σ u)) : ∀ (m r : Nat) (o4 : Option am_V) (s : am_HS), r + m = n2 → FrM σ s → KpO σ s → (∀ j, j < r → ¬ lsP nm nm2 n rv (fun q => rvC n2 ev2 (mkP σ q)) p j) → am_Go lm d 7 5 2 cX7_isLess 12 [some (vR (some 0)), some (vI (N : Int)), some (vI (p : Int)), some (vI (r : Int)), o4] [] s (qI fun z u => (z = 1 ∧ (∃ p r, p < P ∧ r < n2 ∧ lsP nm nm2 n rv (fun q => rvC n2 ev2 (mkP σ q)) p r) ∨ z = 0 ∧ ¬ (∃ p r, p < P ∧ r < n2 ∧ lsP nm nm2 n rv (fun q => rvC n2 ev2 (mkP σ q)) p r)) ∧ FrM σ u) := by
  intro m
  induction m with
  | zero =>
    intro r o4 s hr fr kp hno
    have er : r = n2 := by omega
    subst er
    have hf : s.2.2 = mH := fr.1.trans hf0
    have hb := fr.rg hb0
    have g1 : hI s 0 1 = (P : Int) := (fr.k (keepF (by decide))).trans hP
    have g42 : hI s 0 42 = (N2 : Int) := (fr.k (keepF (by decide))).trans hnow
    have g23 : hI s 23 N2 = (r : Int) := (fr.k (keepA (by decide) (by decide))).trans hB.2.2.1
    have h23 : hI s 23 N = (n : Int) := (fr.k (keepA (by decide) (by decide))).trans hn
    have hN2 : N2 < 2 := hB.1
    have hn2 : r ≤ 12 := hB.2.1
    refine g_iload_n dX7_isLess_12 rfl ?_
    refine g_aload_n dX7_isLess_13 rfl ?_
    refine g_getA dX7_isLess_14 tf_7_77 rfl rfl (mrf hf rfl) ?_
    refine g_aload_n dX7_isLess_17 rfl ?_
    refine g_getI dX7_isLess_18 tf_7_148 rfl rfl ?_
    rw [g42]
    refine g_ialdN (N2) dX7_isLess_21 rfl (by omega) (by omega) ?_
    refine g_icmp_ge (tgt := 134) dX7_isLess_22 (by decide) (fun c22 => ?_) (fun c22 => ?_)
    · exact hnext s _ _ fr kp hno
    · exfalso; omega
  | succ m ih =>
    intro r o4 s hr fr kp hno
    have hf : s.2.2 = mH := fr.1.trans hf0
    have hb := fr.rg hb0
    have g1 : hI s 0 1 = (P : Int) := (fr.k (keepF (by decide))).trans hP
    have g42 : hI s 0 42 = (N2 : Int) := (fr.k (keepF (by decide))).trans hnow
    have g23 : hI s 23 N2 = (n2 : Int) := (fr.k (keepA (by decide) (by decide))).trans hB.2.2.1
    have h23 : hI s 23 N = (n : Int) := (fr.k (keepA (by decide) (by decide))).trans hn
    have hN2 : N2 < 2 := hB.1
    have hn2 : n2 ≤ 12 := hB.2.1
    have hnx : ∀ (o4 : Option am_V) (u : am_HS), FrM σ u → KpO σ u → ¬ lsP nm nm2 n rv (fun q => rvC n2 ev2 (mkP σ q)) p r → am_Go lm d 7 5 2 cX7_isLess 128 [some (vR (some 0)), some (vI (N : Int)), some (vI (p : Int)), some (vI (r : Int)), o4] [] u (qI fun z u => (z = 1 ∧ (∃ p r, p < P ∧ r < n2 ∧ lsP nm nm2 n rv (fun q => rvC n2 ev2 (mkP σ q)) p r) ∨ z = 0 ∧ ¬ (∃ p r, p < P ∧ r < n2 ∧ lsP nm nm2 n rv (fun q => rvC n2 ev2 (mkP σ q)) p r)) ∧ FrM σ u) := by
      intro o4 u fu ku hl
      refine g_iinc dX7_isLess_128 (by decide) rfl ⟨by omega, by omega⟩ (show (r : Int) + 1 = ((r + 1 : Nat) : Int) from by omega) rfl ?_
      refine g_goto (tgt := 12) dX7_isLess_131 (by decide) ?_
      refine ih (r + 1) o4 u (by omega) fu ku (fun j hj => ?_)
      rcases Nat.lt_or_ge j r with q | q
      · exact hno j q
      · have : j = r := by omega
        rw [this]; exact hl
    have g24 : hI s 24 (12 * N2 + r) = nm2 r := (fr.k (keepA (by decide) (by decide))).trans (hB.2.2.2.1 r (by omega))
    have efd : fdS (fun k => hI s 24 (12 * N + k)) n (nm2 r) = fdS nm n (nm2 r) := fdS_congr (fun j hj => (fr.k (keepA (by decide) (by decide))).trans (hnm j hj))
    have hfd := fdS_r nm n (nm2 r)
    refine g_iload_n dX7_isLess_12 rfl ?_
    refine g_aload_n dX7_isLess_13 rfl ?_
    refine g_getA dX7_isLess_14 tf_7_77 rfl rfl (mrf hf rfl) ?_
    refine g_aload_n dX7_isLess_17 rfl ?_
    refine g_getI dX7_isLess_18 tf_7_148 rfl rfl ?_
    rw [g42]
    refine g_ialdN (N2) dX7_isLess_21 rfl (by omega) (by omega) ?_
    refine g_icmp_ge (tgt := 134) dX7_isLess_22 (by decide) (fun c22 => ?_) (fun c22 => ?_)
    · exfalso; omega
    · refine g_aload_n dX7_isLess_25 rfl ?_
      refine g_iload_n dX7_isLess_26 rfl ?_
      refine g_aload_n dX7_isLess_27 rfl ?_
      refine g_getA dX7_isLess_28 tf_7_80 rfl rfl (mrf hf rfl) ?_
      refine g_bipush dX7_isLess_31 (by decide) ?_
      refine g_aload_n dX7_isLess_33 rfl ?_
      refine g_getI dX7_isLess_34 tf_7_148 rfl rfl ?_
      rw [g42]
      refine g_imul dX7_isLess_37 rfl ⟨by omega, by omega⟩ ?_
      refine g_iload_n dX7_isLess_38 rfl ?_
      refine g_iadd dX7_isLess_39 rfl ⟨by omega, by omega⟩ ?_
      refine g_ialdN (12 * N2 + r) dX7_isLess_40 rfl (by omega) (by omega) ?_
      rw [g24]
      refine g_callvI dX7_isLess_41 tm_7_243 rfl ⟨rfl, rfl⟩ rfl (Nat.le_of_ble_eq_true rfl) (cm_ruleOf (by omega) s hf hN h23 hn12 _) (fun z41 s41 h41 => ?_)
      obtain ⟨hz41, e41⟩ := h41
      obtain rfl := e41.symm
      rw [efd] at hz41
      subst hz41
      refine g_istore dX7_isLess_44 (by decide) rfl ?_
      refine g_iload dX7_isLess_46 rfl ?_
      refine g_if_lt (tgt := 128) dX7_isLess_48 (by decide) (fun c48 => ?_) (fun c48 => ?_)
      · first
          | exact hnx _ s fr kp (fun ⟨o', h1, _⟩ => by omega)
          | exact hnx _ s fr kp (fun h => ltV_n2 (a := rvC n2 ev2 (mkP σ p) r) hvo (by omega) ((hlsi _ Iff.rfl).mp h))
          | exact hnx _ s77 fu ku (fun h => ltV_n1 v1 (by omega) ((hlsi _ Iff.rfl).mp h))
          | exact hnx _ s77 fu ku (fun h => by
              have := (hlsi _ (ltV_i v1 hvo (by omega) (by omega))).mp h
              rw [k1.2.1, k1.2.2.1] at c123
              omega)
      · obtain ⟨o, ho, ho2⟩ : ∃ o : Nat, fdS nm n (nm2 r) = (o : Int) ∧ o < n := by
          rcases hfd with ⟨a, -⟩ | ⟨j, a, b, -⟩
          · exfalso; omega
          · exact ⟨j, a, b⟩
        clear hfd
        rw [ho]
        have hvo := hO p o (Or.inl ⟨hp, ho2⟩)
        rw [← kp.1, ← kp.2.1, ← kp.2.2.1] at hvo
        have hok := hrv p o
        have hlsi : ∀ (b : Prop), (ltV (rvC n2 ev2 (mkP σ p) r) (rv p o) ↔ b) → (lsP nm nm2 n rv (fun q => rvC n2 ev2 (mkP σ q)) p r ↔ b) := by
          intro b hb
          rw [← hb]
          unfold lsP
          constructor
          · rintro ⟨o', h1, h2⟩
            have : o' = o := by omega
            subst this
            exact h2
          · intro h
            exact ⟨o, ho, h⟩
        refine g_aload_n dX7_isLess_51 rfl ?_
        refine g_getA dX7_isLess_52 tf_7_95 rfl rfl (mrf hf rfl) ?_
        refine g_bipush dX7_isLess_55 (by decide) ?_
        refine g_iload_n dX7_isLess_57 rfl ?_
        refine g_imul dX7_isLess_58 rfl ⟨by omega, by omega⟩ ?_
        refine g_iload dX7_isLess_59 rfl ?_
        refine g_iadd dX7_isLess_61 rfl ⟨by omega, by omega⟩ ?_
        refine g_ialdN (12 * p + o) dX7_isLess_62 rfl (by omega) (by omega) ?_
        refine g_iconst dX7_isLess_63 ⟨by decide, by decide⟩ ?_
        refine g_icmp_eq (tgt := 70) dX7_isLess_64 (by decide) (fun c64 => ?_) (fun c64 => ?_)
        · refine g_aload_n dX7_isLess_70 rfl ?_
          refine g_iload_n dX7_isLess_71 rfl ?_
          refine g_callvV dX7_isLess_72 tm_7_246 rfl ⟨rfl, rfl⟩ rfl (Nat.le_of_ble_eq_true rfl) (cm_begins (by omega) s hf (p : Int)) (fun s72 h72 => ?_)
          obtain rfl := h72
          change am_Go _ _ _ _ _ _ _ _ _ (bg s (p : Int)) _
          refine g_aload_n dX7_isLess_75 rfl ?_
          refine g_iload_n dX7_isLess_76 rfl ?_
          refine g_callvV dX7_isLess_77 tm_7_249 rfl ⟨rfl, rfl⟩ rfl (Nat.le_of_ble_eq_true rfl) (cm_valP (by omega) hf hb (fr.mb hB) g42 hS (p := p) (r := r) (by omega) (by omega)) (fun s77 h77 => ?_)
          obtain ⟨f1, k1, v1⟩ := h77
          have hf2 : s77.2.2 = mH := f1.1.trans hf
          have hf := hf2
          rw [fr.mkp] at v1
          have hok1 := rvI_ok hS (mkP_ok σ p) 12 r
          have fu := fr.tr f1
          have ku := kp.tr k1
          refine g_aload_n dX7_isLess_80 rfl ?_
          refine g_getI dX7_isLess_81 tf_7_252 rfl rfl ?_
          refine g_iconst dX7_isLess_84 ⟨by decide, by decide⟩ ?_
          refine g_icmp_ne (tgt := 128) dX7_isLess_85 (by decide) (fun c85 => ?_) (fun c85 => ?_)
          · first
              | exact hnx _ s fr kp (fun ⟨o', h1, _⟩ => by omega)
              | exact hnx _ s fr kp (fun h => ltV_n2 (a := rvC n2 ev2 (mkP σ p) r) hvo (by omega) ((hlsi _ Iff.rfl).mp h))
              | exact hnx _ s77 fu ku (fun h => ltV_n1 v1 (by omega) ((hlsi _ Iff.rfl).mp h))
              | exact hnx _ s77 fu ku (fun h => by
                  have := (hlsi _ (ltV_i v1 hvo (by omega) (by omega))).mp h
                  rw [k1.2.1, k1.2.2.1] at c123
                  omega)
          · refine g_aload_n dX7_isLess_88 rfl ?_
            refine g_getL dX7_isLess_89 tf_7_255 rfl rfl ?_
            refine g_aload_n dX7_isLess_92 rfl ?_
            refine g_getA dX7_isLess_93 tf_7_102 rfl rfl (mrf hf rfl) ?_
            refine g_bipush dX7_isLess_96 (by decide) ?_
            refine g_iload_n dX7_isLess_98 rfl ?_
            refine g_imul dX7_isLess_99 rfl ⟨by omega, by omega⟩ ?_
            refine g_iload dX7_isLess_100 rfl ?_
            refine g_iadd dX7_isLess_102 rfl ⟨by omega, by omega⟩ ?_
            refine g_laldN (12 * p + o) dX7_isLess_103 rfl (by omega) (by omega) ?_
            have hg1 := vt_rg v1 hok1 (by omega)
            have hg2 := vt_rg hvo hok (by omega)
            have hm1 := mul_b2 (M := 1000000000) (N := 1000000000) (x := hL s77 0 49) (y := hL s77 31 (12 * p + o)) (by omega) (by rw [k1.2.2.1]; omega)
            have hm2 := mul_b2 (M := 1000000000) (N := 1000000000) (x := hL s77 30 (12 * p + o)) (y := hL s77 0 50) (by rw [k1.2.1]; omega) (by omega)
            refine g_lmul dX7_isLess_104 rfl ⟨by omega, by omega⟩ ?_
            refine g_aload_n dX7_isLess_105 rfl ?_
            refine g_getA dX7_isLess_106 tf_7_98 rfl rfl (mrf hf rfl) ?_
            refine g_bipush dX7_isLess_109 (by decide) ?_
            refine g_iload_n dX7_isLess_111 rfl ?_
            refine g_imul dX7_isLess_112 rfl ⟨by omega, by omega⟩ ?_
            refine g_iload dX7_isLess_113 rfl ?_
            refine g_iadd dX7_isLess_115 rfl ⟨by omega, by omega⟩ ?_
            refine g_laldN (12 * p + o) dX7_isLess_116 rfl (by omega) (by omega) ?_
            refine g_aload_n dX7_isLess_117 rfl ?_
            refine g_getL dX7_isLess_118 tf_7_259 rfl rfl ?_
            refine g_lmul dX7_isLess_121 rfl ⟨by omega, by omega⟩ ?_
            refine g_lc_ge (tgt := 128) dX7_isLess_122 dX7_isLess_123 (by decide) (fun c123 => ?_) (fun c123 => ?_)
            · first
                | exact hnx _ s fr kp (fun ⟨o', h1, _⟩ => by omega)
                | exact hnx _ s fr kp (fun h => ltV_n2 (a := rvC n2 ev2 (mkP σ p) r) hvo (by omega) ((hlsi _ Iff.rfl).mp h))
                | exact hnx _ s77 fu ku (fun h => ltV_n1 v1 (by omega) ((hlsi _ Iff.rfl).mp h))
                | exact hnx _ s77 fu ku (fun h => by
                    have := (hlsi _ (ltV_i v1 hvo (by omega) (by omega))).mp h
                    rw [k1.2.1, k1.2.2.1] at c123
                    omega)
            · refine g_iconst dX7_isLess_126 ⟨by decide, by decide⟩ ?_
              refine g_ireturn dX7_isLess_127 (Or.inr ⟨rfl, by omega⟩) ⟨_, rfl, ?_⟩
              refine ⟨Or.inl ⟨rfl, p, r, hp, by omega, (hlsi _ (ltV_i v1 hvo (by omega) (by omega))).mpr ?_⟩, fu⟩
              rw [k1.2.1, k1.2.2.1] at c123
              omega
        · refine g_goto (tgt := 128) dX7_isLess_67 (by decide) ?_
          first
            | exact hnx _ s fr kp (fun ⟨o', h1, _⟩ => by omega)
            | exact hnx _ s fr kp (fun h => ltV_n2 (a := rvC n2 ev2 (mkP σ p) r) hvo (by omega) ((hlsi _ Iff.rfl).mp h))
            | exact hnx _ s77 fu ku (fun h => ltV_n1 v1 (by omega) ((hlsi _ Iff.rfl).mp h))
            | exact hnx _ s77 fu ku (fun h => by
                have := (hlsi _ (ltV_i v1 hvo (by omega) (by omega))).mp h
                rw [k1.2.1, k1.2.2.1] at c123
                omega)
theorem cm_isLess {D : Nat} (hD : 769 ≤ D) {N n N2 n2 : Nat} {nm nm2 : Nat → Int} {ev2 : Nat → Den} {ed2 : Nat → Nat → Prop} {ls2 : Prop} {σ : am_HS} (hf0 : σ.2.2 = mH) (hb0 : rgM σ) (hN : N < 2) (hn12 : n ≤ 12) (hn : hI σ 23 N = (n : Int)) (hnm : ∀ r, r < n → hI σ 24 (12 * N + r) = nm r) (hB : MB N2 n2 nm2 ev2 ed2 ls2 σ) (hnow : hI σ 0 42 = (N2 : Int)) (hS : BkS n2 ev2 ed2) (P : Nat) (hP : hI σ 0 1 = (P : Int)) (hP6 : P ≤ 6) (rv : Nat → Nat → Vl) (hrv : ∀ p j, vok (rv p j)) (hO : OT rv n P 0 σ) : am_Do lm D mX7_isLess σ [vR (some 0), vI (N : Int)] (qI fun z u => (z = 1 ∧ (∃ p r, p < P ∧ r < n2 ∧ lsP nm nm2 n rv (fun q => rvC n2 ev2 (mkP σ q)) p r) ∨ z = 0 ∧ ¬ (∃ p r, p < P ∧ r < n2 ∧ lsP nm nm2 n rv (fun q => rvC n2 ev2 (mkP σ q)) p r)) ∧ FrM σ u) := by
  obtain ⟨d, rfl⟩ : ∃ d, D = d + 1 := ⟨D - 1, by omega⟩
  refine am_enter rfl rfl (Nat.le_of_ble_eq_true rfl) ?_
  have loop : ∀ (m p : Nat) (o3 o4 : Option am_V) (s : am_HS), p + m = P → FrM σ s → KpO σ s → (∀ q r, q < p → r < n2 → ¬ lsP nm nm2 n rv (fun q => rvC n2 ev2 (mkP σ q)) q r) → am_Go lm d 7 5 2 cX7_isLess 2 [some (vR (some 0)), some (vI (N : Int)), some (vI (p : Int)), o3, o4] [] s (qI fun z u => (z = 1 ∧ (∃ p r, p < P ∧ r < n2 ∧ lsP nm nm2 n rv (fun q => rvC n2 ev2 (mkP σ q)) p r) ∨ z = 0 ∧ ¬ (∃ p r, p < P ∧ r < n2 ∧ lsP nm nm2 n rv (fun q => rvC n2 ev2 (mkP σ q)) p r)) ∧ FrM σ u) := by
    intro m
    induction m with
    | zero =>
      intro p o3 o4 s hp fr kp hno
      have ep : p = P := by omega
      subst ep
      have hf : s.2.2 = mH := fr.1.trans hf0
      have hb := fr.rg hb0
      have g1 : hI s 0 1 = (p : Int) := (fr.k (keepF (by decide))).trans hP
      have g42 : hI s 0 42 = (N2 : Int) := (fr.k (keepF (by decide))).trans hnow
      have g23 : hI s 23 N2 = (n2 : Int) := (fr.k (keepA (by decide) (by decide))).trans hB.2.2.1
      have h23 : hI s 23 N = (n : Int) := (fr.k (keepA (by decide) (by decide))).trans hn
      have hN2 : N2 < 2 := hB.1
      have hn2 : n2 ≤ 12 := hB.2.1
      refine g_iload_n dX7_isLess_2 rfl ?_
      refine g_aload_n dX7_isLess_3 rfl ?_
      refine g_getI dX7_isLess_4 tf_7_137 rfl rfl ?_
      refine g_icmp_ge (tgt := 140) dX7_isLess_7 (by decide) (fun c7 => ?_) (fun c7 => ?_)
      · refine g_iconst dX7_isLess_140 ⟨by decide, by decide⟩ ?_
        refine g_ireturn dX7_isLess_141 (Or.inr ⟨rfl, by omega⟩) ⟨_, rfl, ?_⟩
        exact ⟨Or.inr ⟨rfl, fun ⟨q, r, h1, h2, h3⟩ => hno q r h1 h2 h3⟩, fr⟩
      · exfalso; omega
    | succ m ih =>
      intro p o3 o4 s hp fr kp hno
      have hf : s.2.2 = mH := fr.1.trans hf0
      have hb := fr.rg hb0
      have g1 : hI s 0 1 = (P : Int) := (fr.k (keepF (by decide))).trans hP
      have g42 : hI s 0 42 = (N2 : Int) := (fr.k (keepF (by decide))).trans hnow
      have g23 : hI s 23 N2 = (n2 : Int) := (fr.k (keepA (by decide) (by decide))).trans hB.2.2.1
      have h23 : hI s 23 N = (n : Int) := (fr.k (keepA (by decide) (by decide))).trans hn
      have hN2 : N2 < 2 := hB.1
      have hn2 : n2 ≤ 12 := hB.2.1
      refine g_iload_n dX7_isLess_2 rfl ?_
      refine g_aload_n dX7_isLess_3 rfl ?_
      refine g_getI dX7_isLess_4 tf_7_137 rfl rfl ?_
      refine g_icmp_ge (tgt := 140) dX7_isLess_7 (by decide) (fun c7 => ?_) (fun c7 => ?_)
      · exfalso; omega
      · refine g_iconst dX7_isLess_10 ⟨by decide, by decide⟩ ?_
        refine g_istore_n dX7_isLess_11 (by decide) rfl ?_
        refine less_in (by omega) hf0 hb0 hN hn12 hn hnm hB hnow hS P hP hP6 rv hrv hO p (by omega) (fun s o3 o4 fr kp hn3 => ?_) n2 0 _ s (by omega) fr kp (fun j hj => absurd hj (Nat.not_lt_zero _))
        refine g_iinc dX7_isLess_134 (by decide) rfl ⟨by omega, by omega⟩ (show (p : Int) + 1 = ((p + 1 : Nat) : Int) from by omega) rfl ?_
        refine g_goto (tgt := 2) dX7_isLess_137 (by decide) ?_
        refine ih (p + 1) _ _ s (by omega) fr kp (fun q r hq hr => ?_)
        rcases Nat.lt_or_ge q p with g | g
        · exact hno q r g hr
        · have : q = p := by omega
          rw [this]; exact hn3 r hr
  refine g_iconst dX7_isLess_0 ⟨by decide, by decide⟩ ?_
  refine g_istore_n dX7_isLess_1 (by decide) rfl ?_
  exact loop P 0 none none σ (by omega) (FrM.rf σ) ⟨fun _ => rfl, fun _ => rfl, fun _ => rfl, rfl⟩ (fun q r hq => absurd hq (Nat.not_lt_zero _))
