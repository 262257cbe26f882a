/-! THE CLASS: a book that stands; its rules are reckoned -/
def eNv (env : Nat → Vl) : Int → Vl := fun x => if 0 ≤ x ∧ x < 22 then env x.toNat else vX
def cbc (B o k : Nat) : Prop := (o = 6 + B ∧ k ≤ 1) ∨ (19 + 9 * B ≤ o ∧ o ≤ 27 + 9 * B)
def CB (B n : Nat) (nm : Nat → Int) (ev : Nat → Den) (ed : Nat → Nat → Prop) (ls : Prop) (σ : am_HS) : Prop := B < 2 ∧ n ≤ 12 ∧ hI σ (6 + B) 0 = (n : Int) ∧ (∀ r, r < n → hI σ (19 + 9 * B) r = nm r) ∧ ((hI σ (6 + B) 1 = 0 ∨ hI σ (6 + B) 1 = 1) ∧ (hI σ (6 + B) 1 ≠ 0 ↔ ls)) ∧ NBk σ B n ed ∧ ARs σ B n ed ∧ ARo σ B n ∧ ∃ bf : Nat → Nat, ∀ k, k < n → (hI σ (20 + 9 * B) k = (bf k : Int) ∧ hI σ (21 + 9 * B) k = (bf (k + 1) : Int) ∧ bf (k + 1) ≤ 1200) ∧ ∃ e : NDn, Cd (cdT σ B) 0 99 (bf k) (bf (k + 1)) [(e, false)] ∧ ∀ env : Nat → Vl, ev k env = e (eNv env)
theorem CB.of {B n : Nat} {nm : Nat → Int} {ev : Nat → Den} {ed : Nat → Nat → Prop} {ls : Prop} {σ s : am_HS} (h : CB B n nm ev ed ls σ) (he : ∀ o k, cbc B o k → hI s o k = hI σ o k) : CB B n nm ev ed ls s := by
  obtain ⟨h1, h2, h3, h4, h5, h6, h7, h8, bf, h9⟩ := h
  have hc : cdT s B = cdT σ B := by
    funext k
    unfold cdT
    rw [he _ _ (by unfold cbc; omega), he _ _ (by unfold cbc; omega), he _ _ (by unfold cbc; omega)]
  refine ⟨h1, h2, (he _ _ (by unfold cbc; omega)).trans h3, fun r hr => (he _ _ (by unfold cbc; omega)).trans (h4 r hr), by rw [he _ _ (by unfold cbc; omega)]; exact h5, fun r hr => ?_, ⟨fun r hr => ?_, fun i hi => ?_⟩, fun r hr => ?_, bf, fun k hk => ?_⟩
  · obtain ⟨g, g1, g2⟩ := h6 r hr
    exact ⟨g, (he _ _ (by unfold cbc; omega)).trans g1, g2⟩
  · obtain ⟨g, g1, g2⟩ := h7.1 r hr
    exact ⟨g, (he _ _ (by unfold cbc; omega)).trans g1, g2⟩
  · obtain ⟨r, r1, r2, r3⟩ := h7.2 i hi
    refine ⟨r, r1, (he _ _ (by unfold cbc; omega)).trans r2, fun r' z1 z2 => ?_⟩
    obtain ⟨j, j1, j2⟩ := r3 r' z1 z2
    exact ⟨j, j1, (he _ _ (by unfold cbc; omega)).trans j2⟩
  · obtain ⟨i, i1, i2⟩ := h8 r hr
    exact ⟨i, i1, (he _ _ (by unfold cbc; omega)).trans i2⟩
  · obtain ⟨⟨k1, k2, k3⟩, e, k4, k5⟩ := h9 k hk
    refine ⟨⟨(he _ _ (by unfold cbc; omega)).trans k1, (he _ _ (by unfold cbc; omega)).trans k2, k3⟩, e, ?_, k5⟩
    rw [hc]
    exact k4
/-- the values that are laid out -/
def XV (X : Nat → Vl) (s : am_HS) : Prop := ∀ a, a < 22 → vok (X a) ∧ hL s 13 a = encV (X a)
theorem eNv_val {X : Nat → Vl} {s : am_HS} (h : XV X s) : (∀ v, vok (eNv X v)) ∧ ∀ v : Int, ((0 ≤ v ∧ v < 22) ∧ hL s 13 v.toNat = encV (eNv X v)) ∨ (¬ (0 ≤ v ∧ v < 22) ∧ eNv X v = vX) := by
  constructor
  · intro v
    unfold eNv
    split
    · exact (h v.toNat (by omega)).1
    · trivial
  · intro v
    by_cases q : 0 ≤ v ∧ v < 22
    · refine Or.inl ⟨q, ?_⟩
      unfold eNv
      rw [if_pos q]
      exact (h v.toNat (by omega)).2
    · refine Or.inr ⟨q, ?_⟩
      unfold eNv
      rw [if_neg q]
theorem cc2_run {D : Nat} (hD : 7 ≤ D) {σ : am_HS} {b : Nat} (hf : σ.2.2 = cH b) {B n : Nat} {nm : Nat → Int} {ev : Nat → Den} {ed : Nat → Nat → Prop} {ls : Prop} (hC : CB B n nm ev ed ls σ) {X : Nat → Vl} (hX : XV X σ) {r : Nat} (hr : r < n) : am_Do lc D mX2_run σ [vR (some 5), vR (some (6 + B)), vI (r : Int)] (qL fun z s => (z = encV (ev r X) ∧ vok (ev r X)) ∧ StF 0 602 σ s) := by
  obtain ⟨hB, hn12, hN, h4, h5, h6, h7, h8, bf, h9⟩ := hC
  obtain ⟨⟨k1, k2, k3⟩, e, k4, k5⟩ := h9 r hr
  obtain ⟨hE, hval⟩ := eNv_val hX
  obtain ⟨d, rfl⟩ : ∃ d, D = d + 1 := ⟨D - 1, by omega⟩
  refine am_enter rfl rfl (Nat.le_of_ble_eq_true rfl) ?_
  refine g_aload_n dX2_run_0 rfl ?_
  refine g_iload_n dX2_run_1 rfl ?_
  refine g_callvI dX2_run_2 tm_2_61 rfl ⟨rfl, rfl⟩ (lc_b hB) (Nat.le_of_ble_eq_true rfl) (cc0_isPlace (by omega) σ hB _) (fun z2 s2 h2 => ?_)
  obtain ⟨h2, e2⟩ := h2
  obtain rfl := e2.symm
  refine g_if_ne (tgt := 12) dX2_run_5 (by decide) (fun c5 => ?_) (fun c5 => ?_)
  · refine g_iconst dX2_run_12 ⟨by decide, by decide⟩ ?_
    refine g_istore_n dX2_run_13 (by decide) rfl ?_
    refine g_aload_n dX2_run_14 rfl ?_
    refine g_getA dX2_run_15 tf_2_65 (lc_b hB) rfl (crb4 hf hB) ?_
    refine g_iload_n dX2_run_18 rfl ?_
    refine g_ialdN (r) dX2_run_19 (lcb4 hB) (by omega) (by omega) ?_
    rw [k1]
    refine g_istore dX2_run_20 (by decide) rfl ?_
    obtain ⟨a1, a2, a3, ⟨e', a4, a5⟩, a6⟩ := run_cd (d := d) (by omega) hf hB (show r < 12 by omega) hE hval k4
    rw [← one_in a4] at a5
    refine a6 _ 0 σ _ _ _ _ (by omega) (by omega) k3 (StF.rf _ _ _) (fun s1 o5 o6 o7 o8 q1 q2 => ?_)
    obtain ⟨e2, z1, z2⟩ := q2
    rw [← one_in z1] at z2
    have hf1 : s1.2.2 = cH b := q1.2.1.trans hf
    have e21 := q1.hI (21 + 9 * B) r
    refine g_iload dX2_run_22 rfl ?_
    refine g_if_lt (tgt := 353) dX2_run_24 (by decide) (fun c24 => ?_) (fun c24 => ?_)
    · exfalso; omega
    · refine g_iload dX2_run_27 rfl ?_
      refine g_aload_n dX2_run_29 rfl ?_
      refine g_getA dX2_run_30 tf_2_68 (lc_b hB) rfl (crb5 hf1 hB) ?_
      refine g_iload_n dX2_run_33 rfl ?_
      refine g_ialdN (r) dX2_run_34 (lcb5 hB) (by omega) (by omega) ?_
      refine g_icmp_ge (tgt := 353) dX2_run_35 (by decide) (fun c35 => ?_) (fun c35 => ?_)
      · refine g_aload_n dX2_run_353 rfl ?_
        refine g_getA dX2_run_354 tf_2_18 rfl rfl (crf hf1 rfl) ?_
        refine g_iconst dX2_run_357 ⟨by decide, by decide⟩ ?_
        refine g_laldN (0) dX2_run_358 rfl (by omega) (by omega) ?_
        refine g_lreturn dX2_run_359 rfl ⟨_, rfl, ?_⟩
        exact ⟨⟨by rw [z2, k5], by rw [k5]; exact a5⟩, q1⟩
      · exfalso; omega
  · exfalso; omega

theorem and_ne0 {a b : Nat} : (((a &&& b : Nat) : Int) ≠ 0) ↔ ∃ i, hasB a i ∧ hasB b i := by
  constructor
  · intro h
    by_cases q : ∃ i, hasB a i ∧ hasB b i
    · exact q
    · exfalso
      apply h
      have : a &&& b = 0 := by
        apply Nat.eq_of_testBit_eq
        intro i
        rw [Nat.testBit_and, Nat.zero_testBit]
        cases h1 : a.testBit i
        · rfl
        · cases h2 : b.testBit i
          · rfl
          · exact absurd ⟨i, h1, h2⟩ q
      rw [this]
      rfl
  · rintro ⟨i, h1, h2⟩ h
    have h0 : a &&& b = 0 := by omega
    have : (a &&& b).testBit i = true := by
      rw [Nat.testBit_and]
      unfold hasB at h1 h2
      rw [h1, h2]
      rfl
    rw [h0, Nat.zero_testBit] at this
    cases this
/-- whether a rule is reckoned anew -/
def reck (n : Nat) (ed : Nat → Nat → Prop) (g sc r : Nat) : Prop := hasB g (10 + r) ∧ (sc = 4194303 ∨ ∃ a, blN n ed r a ∧ hasB sc a)
def SeF (σ s : am_HS) : Prop := s.1 = σ.1 ∧ s.2.2 = σ.2.2 ∧ ∀ o j, o ≠ 13 → o ≠ 15 → hL s o j = hL σ o j
theorem SeF.rf (σ : am_HS) : SeF σ σ := ⟨rfl, rfl, fun _ _ _ _ => rfl⟩
theorem SeF.tr {σ s u : am_HS} (h : SeF σ s) (h2 : SeF s u) : SeF σ u := ⟨h2.1.trans h.1, h2.2.1.trans h.2.1, fun o j q1 q2 => (h2.2.2 o j q1 q2).trans (h.2.2 o j q1 q2)⟩
theorem SeF.hI {σ s : am_HS} (h : SeF σ s) (o j : Nat) : hI s o j = hI σ o j := by unfold _root_.Jvm.Pilot.@@N@@.hI; rw [h.1]
theorem StF.se {F n : Nat} {σ s : am_HS} (h : StF F n σ s) : SeF σ s := ⟨h.1, h.2.1, fun o j q1 q2 => h.2.2 o j (fun z => q2 z.1)⟩
theorem SeF.cb {B n : Nat} {nm : Nat → Int} {ev : Nat → Den} {ed : Nat → Nat → Prop} {ls : Prop} {σ s : am_HS} (f : SeF σ s) (h : CB B n nm ev ed ls σ) : CB B n nm ev ed ls s := h.of (fun o k _ => f.hI o k)
/-- 'settle' under way: i places of the order are done -/
def SeI (n B : Nat) (ev : Nat → Den) (ed : Nat → Nat → Prop) (g sc : Nat) (X0 : Nat → Vl) (σ : am_HS) (i : Nat) (X : Nat → Vl) (s : am_HS) : Prop := SeF σ s ∧ XV X s ∧ (∀ a, (∀ r, r < n → a = 10 + r → ¬ reck n ed g sc r) → X a = X0 a) ∧ ∀ j r : Nat, j < i → r < n → hI σ (24 + 9 * B) j = (r : Int) → reck n ed g sc r → X (10 + r) = ev r X
def upX (X : Nat → Vl) (a : Nat) (v : Vl) : Nat → Vl := fun x => if x = a then v else X x
theorem upX_e (X : Nat → Vl) (a : Nat) (v : Vl) : upX X a v a = v := if_pos rfl
theorem upX_n {X : Nat → Vl} {a x : Nat} {v : Vl} (h : x ≠ a) : upX X a v x = X x := if_neg h
theorem upX_s (X : Nat → Vl) (a : Nat) : upX X a (X a) = X := by
  funext x
  unfold upX
  split
  · rename_i h; rw [h]
  · rfl
theorem SeI.skip {n B g sc i : Nat} {ev : Nat → Den} {ed : Nat → Nat → Prop} {X0 X : Nat → Vl} {σ s : am_HS} (h : SeI n B ev ed g sc X0 σ i X s) (hno : ∀ r : Nat, r < n → hI σ (24 + 9 * B) i = (r : Int) → ¬ reck n ed g sc r) : SeI n B ev ed g sc X0 σ (i + 1) X s := by
  refine ⟨h.1, h.2.1, h.2.2.1, fun j r hj hr ho hk => ?_⟩
  by_cases e : j = i
  · rw [e] at ho
    exact absurd hk (hno r hr ho)
  · exact h.2.2.2 j r (by omega) hr ho hk
theorem SeI.put {n B g sc i r : Nat} {nm : Nat → Int} {ev : Nat → Den} {ed : Nat → Nat → Prop} {ls : Prop} {X0 X : Nat → Vl} {σ s s2 : am_HS} (h : SeI n B ev ed g sc X0 σ i X s) (hC : CB B n nm ev ed ls σ) (hS : BkS n ev ed) (hi : i < n) (hr : r < n) (ho : hI σ (24 + 9 * B) i = (r : Int)) (hk : reck n ed g sc r) (hst : StF 0 602 s s2) (hv : vok (ev r X)) : SeI n B ev ed g sc X0 σ (i + 1) (upX X (10 + r) (ev r X)) (uL s2 13 (10 + r) (encV (ev r X))) := by
  obtain ⟨h1, h2, h3, h4⟩ := h
  obtain ⟨b1, b2, b3, b5, ρ, ρ1, ρ2⟩ := hS
  have hself : ¬ ed r r := fun z => absurd (ρ2 r r hr hr z) (by omega)
  have hev : ∀ q, q < n → ¬ ed q r → ev q (upX X (10 + r) (ev r X)) = ev q X := fun q hq hno => by
    refine b2 q hq _ _ (fun a ha => ?_)
    rcases ha with ⟨a1, a2⟩ | ⟨r', r1, r2, r3⟩
    · exact upX_n (by omega)
    · refine upX_n (fun z => hno ?_)
      have : r' = r := by omega
      rw [← this]; exact r2
  refine ⟨h1.tr (hst.se.tr ⟨rfl, rfl, fun o j q1 q2 => hL_uL_n (fun z => q1 z.1)⟩), fun a ha => ?_, fun a ha => ?_, fun j q hj hq hoj hkq => ?_⟩
  · by_cases e : a = 10 + r
    · subst e
      rw [upX_e]
      exact ⟨hv, hL_uL_e (encV_r hv)⟩
    · rw [upX_n e, hL_uL_n (by omega), hst.2.2 13 a (by omega)]
      exact h2 a ha
  · by_cases e : a = 10 + r
    · exact absurd hk (ha r hr e)
    · rw [upX_n e]
      exact h3 a ha
  · -- if r was reckoned before, nothing changes
    by_cases hb : ∃ j', j' < i ∧ hI σ (24 + 9 * B) j' = (r : Int)
    · obtain ⟨j', j1, j2⟩ := hb
      have hsame := h4 j' r j1 hr j2 hk
      rw [← hsame, upX_s]
      by_cases e : j = i
      · rw [e] at hoj
        have : q = r := by omega
        rw [this]
        exact hsame
      · exact h4 j q (by omega) hq hoj hkq
    · by_cases e : j = i
      · rw [e] at hoj
        have : q = r := by omega
        subst this
        rw [upX_e, hev q hq hself]
      · have hqr : q ≠ r := fun z => hb ⟨j, by omega, by rw [← z]; exact hoj⟩
        rw [upX_n (by omega)]
        have hnq : ¬ ed q r := fun z => by
          obtain ⟨-, -, -, -, -, -, h7, -⟩ := hC
          obtain ⟨q2, z1, z2, z3⟩ := h7.2 j (by omega)
          have e2 : q2 = q := by omega
          subst e2
          obtain ⟨j', j1, j2⟩ := z3 r hr z
          exact hb ⟨j', by omega, j2⟩
        rw [hev q hq hnq]
        exact h4 j q (by omega) hq hoj hkq
theorem cc2_settle {D : Nat} (hD : 8 ≤ D) {σ : am_HS} {b : Nat} (hf : σ.2.2 = cH b) {B n : Nat} {nm : Nat → Int} {ev : Nat → Den} {ed : Nat → Nat → Prop} {ls : Prop} (hC : CB B n nm ev ed ls σ) (hS : BkS n ev ed) {X0 : Nat → Vl} (hX : XV X0 σ) (g sc : Nat) (hg : g < 4194304) (hsc : sc < 4194304) : am_Do lc D mX2_settle σ [vR (some 5), vR (some (6 + B)), vI (g : Int), vI (sc : Int)] (qV fun s => ∃ X, SeI n B ev ed g sc X0 σ n X s) := by
  obtain ⟨d, rfl⟩ : ∃ d, D = d + 1 := ⟨D - 1, by omega⟩
  refine am_enter rfl rfl (Nat.le_of_ble_eq_true rfl) ?_
  have hB : B < 2 := hC.1
  have hn12 : n ≤ 12 := hC.2.1
  have lp : ∀ (m i : Nat) (X : Nat → Vl) (s : am_HS) (o5 o6 o7 : Option am_V), i + m = n → SeI n B ev ed g sc X0 σ i X s → am_Go lc d 2 8 0 cX2_settle 3 [some (vR (some 5)), some (vR (some (6 + B))), some (vI (g : Int)), some (vI (sc : Int)), some (vI (i : Int)), o5, o6, o7] [] s (qV fun s => ∃ X, SeI n B ev ed g sc X0 σ n X s) := by
    intro m
    induction m with
    | zero =>
      intro i X s o5 o6 o7 hi hI0
      have e : i = n := by omega
      subst e
      have hN : hI s (6 + B) 0 = (i : Int) := (hI0.1.hI _ _).trans hC.2.2.1
      refine g_iload dX2_settle_3 rfl ?_
      refine g_aload_n dX2_settle_5 rfl ?_
      refine g_getI dX2_settle_6 tf_2_39 (lc_b hB) rfl ?_
      refine g_icmp_ge (tgt := 101) dX2_settle_9 (by decide) (fun c9 => ?_) (fun c9 => ?_)
      · refine g_return dX2_settle_101 rfl ⟨rfl, ?_⟩
        exact ⟨X, hI0⟩
      · exfalso; omega
    | succ m ih =>
      intro i X s o5 o6 o7 hi hI0
      have hfs : s.2.2 = cH b := hI0.1.2.1.trans hf
      have hCs := hI0.1.cb hC
      have hN : hI s (6 + B) 0 = (n : Int) := hCs.2.2.1
      obtain ⟨r, r1, r2, r3⟩ := hC.2.2.2.2.2.2.1.2 i (by omega)
      obtain ⟨bl, l1, l2, l3⟩ := hCs.2.2.2.2.2.2.1.1 r r1
      have hos : hI s (24 + 9 * B) i = (r : Int) := (hI0.1.hI _ _).trans r2
      have hskip : ¬ reck n ed g sc r → SeI n B ev ed g sc X0 σ (i + 1) X s := fun hno => hI0.skip (fun q hq ho => by
        have : q = r := by omega
        rw [this]; exact hno)
      have hbl : (((bl &&& sc : Nat) : Int) ≠ 0) ↔ ∃ a, blN n ed r a ∧ hasB sc a := by
        rw [and_ne0]
        exact ⟨fun ⟨a, a1, a2⟩ => ⟨a, (l3 a).mp a1, a2⟩, fun ⟨a, a1, a2⟩ => ⟨a, (l3 a).mpr a1, a2⟩⟩
      refine g_iload dX2_settle_3 rfl ?_
      refine g_aload_n dX2_settle_5 rfl ?_
      refine g_getI dX2_settle_6 tf_2_39 (lc_b hB) rfl ?_
      refine g_icmp_ge (tgt := 101) dX2_settle_9 (by decide) (fun c9 => ?_) (fun c9 => ?_)
      · exfalso; omega
      · refine g_aload_n dX2_settle_12 rfl ?_
        refine g_iload dX2_settle_13 rfl ?_
        refine g_callvI dX2_settle_15 tm_2_45 rfl ⟨rfl, rfl⟩ (lc_b hB) (Nat.le_of_ble_eq_true rfl) (cc0_inOrder (by omega) s hfs hB n hN hn12 i) (fun z15 s15 h15 => ?_)
        obtain ⟨h15, e15⟩ := h15
        obtain rfl := e15.symm
        rw [if_pos (by omega), hos] at h15
        subst h15
        refine g_istore dX2_settle_18 (by decide) rfl ?_
        refine g_bipush dX2_settle_20 (by decide) ?_
        refine g_iload dX2_settle_22 rfl ?_
        refine g_iadd dX2_settle_24 rfl ⟨by omega, by omega⟩ ?_
        rw [show (10 : Int) + (r : Int) = ((10 + r : Nat) : Int) from by omega]
        refine g_istore dX2_settle_25 (by decide) rfl ?_
        refine g_iload_n dX2_settle_27 rfl ?_
        refine g_ldc dX2_settle_28 ti_2_49 ⟨by decide, by decide⟩ ?_
        refine g_icmp_eq (tgt := 44) dX2_settle_30 (by decide) (fun c30 => ?_) (fun c30 => ?_)
        · have hst : sc = 4194303 ∨ ∃ a, blN n ed r a ∧ hasB sc a := Or.inl (by omega)
          refine g_iconst dX2_settle_44 ⟨by decide, by decide⟩ ?_
          refine g_goto (tgt := 49) dX2_settle_45 (by decide) ?_
          refine g_istore dX2_settle_49 (by decide) rfl ?_
          refine g_iload dX2_settle_51 rfl ?_
          refine g_if_eq (tgt := 95) dX2_settle_53 (by decide) (fun c53 => ?_) (fun c53 => ?_)
          · exfalso; omega
          · refine g_iload_n dX2_settle_56 rfl ?_
            refine g_iload dX2_settle_57 rfl ?_
            refine g_callsI dX2_settle_59 tm_2_53 rfl ⟨Nat.le_of_ble_eq_true rfl, rfl, rfl⟩ (Nat.le_of_ble_eq_true rfl) (cc6_bit (by omega) s g (10 + r) (by omega) (by omega)) (fun z59 s59 h59 => ?_)
            obtain ⟨h59, e59⟩ := h59
            obtain rfl := e59.symm
            refine g_iconst dX2_settle_62 ⟨by decide, by decide⟩ ?_
            refine g_icmp_ne (tgt := 95) dX2_settle_63 (by decide) (fun c63 => ?_) (fun c63 => ?_)
            · have hgb : ¬ hasB g (10 + r) := fun z => h59.elim (fun w => by omega) (fun w => w.2 z)
              refine g_iinc dX2_settle_95 (by decide) rfl ⟨by omega, by omega⟩ (show (i : Int) + 1 = ((i + 1 : Nat) : Int) from by omega) rfl ?_
              refine g_goto (tgt := 3) dX2_settle_98 (by decide) ?_
              exact ih (i + 1) X s _ _ _ (by omega) (hskip (fun z => hgb z.1))
            · have hgb : hasB g (10 + r) := h59.elim (fun w => w.2) (fun w => by omega)
              refine g_iload dX2_settle_66 rfl ?_
              refine g_if_lt (tgt := 95) dX2_settle_68 (by decide) (fun c68 => ?_) (fun c68 => ?_)
              · exfalso; omega
              · refine g_iload dX2_settle_71 rfl ?_
                refine g_aload_n dX2_settle_73 rfl ?_
                refine g_getA dX2_settle_74 tf_2_9 rfl rfl (crf hfs rfl) ?_
                refine g_alen dX2_settle_77 rfl (by decide) ?_
                refine g_icmp_ge (tgt := 95) dX2_settle_78 (by decide) (fun c78 => ?_) (fun c78 => ?_)
                · exfalso; omega
                · refine g_aload_n dX2_settle_81 rfl ?_
                  refine g_getA dX2_settle_82 tf_2_9 rfl rfl (crf hfs rfl) ?_
                  refine g_iload dX2_settle_85 rfl ?_
                  refine g_aload_n dX2_settle_87 rfl ?_
                  refine g_aload_n dX2_settle_88 rfl ?_
                  refine g_iload dX2_settle_89 rfl ?_
                  refine g_callvL dX2_settle_91 tm_2_57 rfl ⟨rfl, rfl⟩ rfl (Nat.le_of_ble_eq_true rfl) (cc2_run (by omega) hfs hCs hI0.2.1 r1) (fun z91 s91 h91 => ?_)
                  obtain ⟨⟨h91, hv91⟩, hst91⟩ := h91
                  subst h91
                  refine g_lastN (10 + r) dX2_settle_94 rfl (by omega) (by omega) ?_
                  refine g_iinc dX2_settle_95 (by decide) rfl ⟨by omega, by omega⟩ (show (i : Int) + 1 = ((i + 1 : Nat) : Int) from by omega) rfl ?_
                  refine g_goto (tgt := 3) dX2_settle_98 (by decide) ?_
                  exact ih (i + 1) _ _ _ _ _ (by omega) (hI0.put hC hS (by omega) r1 r2 ⟨hgb, hst⟩ hst91 hv91)
        · refine g_aload_n dX2_settle_33 rfl ?_
          refine g_iload dX2_settle_34 rfl ?_
          refine g_callvI dX2_settle_36 tm_2_50 rfl ⟨rfl, rfl⟩ (lc_b hB) (Nat.le_of_ble_eq_true rfl) (cc0_belowOf (by omega) s hfs hB n hN hn12 r) (fun z36 s36 h36 => ?_)
          obtain ⟨h36, e36⟩ := h36
          obtain rfl := e36.symm
          rw [if_pos r1, l1] at h36
          subst h36
          refine g_iload_n dX2_settle_39 rfl ?_
          refine g_iand dX2_settle_40 (bt_and (by omega)) ?_
          refine g_if_eq (tgt := 48) dX2_settle_41 (by decide) (fun c41 => ?_) (fun c41 => ?_)
          · have hst : ¬ (sc = 4194303 ∨ ∃ a, blN n ed r a ∧ hasB sc a) := fun z => z.elim (fun z => by omega) (fun z => hbl.mpr z c41)
            refine g_iconst dX2_settle_48 ⟨by decide, by decide⟩ ?_
            refine g_istore dX2_settle_49 (by decide) rfl ?_
            refine g_iload dX2_settle_51 rfl ?_
            refine g_if_eq (tgt := 95) dX2_settle_53 (by decide) (fun c53 => ?_) (fun c53 => ?_)
            · refine g_iinc dX2_settle_95 (by decide) rfl ⟨by omega, by omega⟩ (show (i : Int) + 1 = ((i + 1 : Nat) : Int) from by omega) rfl ?_
              refine g_goto (tgt := 3) dX2_settle_98 (by decide) ?_
              exact ih (i + 1) X s _ _ _ (by omega) (hskip (fun z => hst z.2))
            · exfalso; omega
          · have hst : sc = 4194303 ∨ ∃ a, blN n ed r a ∧ hasB sc a := Or.inr (hbl.mp c41)
            refine g_iconst dX2_settle_44 ⟨by decide, by decide⟩ ?_
            refine g_goto (tgt := 49) dX2_settle_45 (by decide) ?_
            refine g_istore dX2_settle_49 (by decide) rfl ?_
            refine g_iload dX2_settle_51 rfl ?_
            refine g_if_eq (tgt := 95) dX2_settle_53 (by decide) (fun c53 => ?_) (fun c53 => ?_)
            · exfalso; omega
            · refine g_iload_n dX2_settle_56 rfl ?_
              refine g_iload dX2_settle_57 rfl ?_
              refine g_callsI dX2_settle_59 tm_2_53 rfl ⟨Nat.le_of_ble_eq_true rfl, rfl, rfl⟩ (Nat.le_of_ble_eq_true rfl) (cc6_bit (by omega) s g (10 + r) (by omega) (by omega)) (fun z59 s59 h59 => ?_)
              obtain ⟨h59, e59⟩ := h59
              obtain rfl := e59.symm
              refine g_iconst dX2_settle_62 ⟨by decide, by decide⟩ ?_
              refine g_icmp_ne (tgt := 95) dX2_settle_63 (by decide) (fun c63 => ?_) (fun c63 => ?_)
              · have hgb : ¬ hasB g (10 + r) := fun z => h59.elim (fun w => by omega) (fun w => w.2 z)
                refine g_iinc dX2_settle_95 (by decide) rfl ⟨by omega, by omega⟩ (show (i : Int) + 1 = ((i + 1 : Nat) : Int) from by omega) rfl ?_
                refine g_goto (tgt := 3) dX2_settle_98 (by decide) ?_
                exact ih (i + 1) X s _ _ _ (by omega) (hskip (fun z => hgb z.1))
              · have hgb : hasB g (10 + r) := h59.elim (fun w => w.2) (fun w => by omega)
                refine g_iload dX2_settle_66 rfl ?_
                refine g_if_lt (tgt := 95) dX2_settle_68 (by decide) (fun c68 => ?_) (fun c68 => ?_)
                · exfalso; omega
                · refine g_iload dX2_settle_71 rfl ?_
                  refine g_aload_n dX2_settle_73 rfl ?_
                  refine g_getA dX2_settle_74 tf_2_9 rfl rfl (crf hfs rfl) ?_
                  refine g_alen dX2_settle_77 rfl (by decide) ?_
                  refine g_icmp_ge (tgt := 95) dX2_settle_78 (by decide) (fun c78 => ?_) (fun c78 => ?_)
                  · exfalso; omega
                  · refine g_aload_n dX2_settle_81 rfl ?_
                    refine g_getA dX2_settle_82 tf_2_9 rfl rfl (crf hfs rfl) ?_
                    refine g_iload dX2_settle_85 rfl ?_
                    refine g_aload_n dX2_settle_87 rfl ?_
                    refine g_aload_n dX2_settle_88 rfl ?_
                    refine g_iload dX2_settle_89 rfl ?_
                    refine g_callvL dX2_settle_91 tm_2_57 rfl ⟨rfl, rfl⟩ rfl (Nat.le_of_ble_eq_true rfl) (cc2_run (by omega) hfs hCs hI0.2.1 r1) (fun z91 s91 h91 => ?_)
                    obtain ⟨⟨h91, hv91⟩, hst91⟩ := h91
                    subst h91
                    refine g_lastN (10 + r) dX2_settle_94 rfl (by omega) (by omega) ?_
                    refine g_iinc dX2_settle_95 (by decide) rfl ⟨by omega, by omega⟩ (show (i : Int) + 1 = ((i + 1 : Nat) : Int) from by omega) rfl ?_
                    refine g_goto (tgt := 3) dX2_settle_98 (by decide) ?_
                    exact ih (i + 1) _ _ _ _ _ (by omega) (hI0.put hC hS (by omega) r1 r2 ⟨hgb, hst⟩ hst91 hv91)
  refine g_iconst dX2_settle_0 ⟨by decide, by decide⟩ ?_
  refine g_istore dX2_settle_1 (by decide) rfl ?_
  exact lp n 0 X0 σ _ _ _ (by omega) ⟨SeF.rf σ, hX, fun _ _ => rfl, fun j r hj => by omega⟩
