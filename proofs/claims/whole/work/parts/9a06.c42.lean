/-! THE CLASS: what a rule is worth -/
theorem set_val {n : Nat} {ev : Nat → Den} {ed : Nat → Nat → Prop} (hS : BkS n ev ed) {mk X : Nat → Vl} (hmv : ∀ w, vok (mk w)) {K : Nat → Prop} (hK : ∀ q q', q < n → K q → q' < n → ed q q' → K q') (hX : ∀ q, q < n → K q → X (10 + q) = ev q X) (hm : ∀ q a, q < n → K q → a < 10 → ed q (12 + a) → X a = mk a) : ∀ q, q < n → K q → X (10 + q) = rvC n ev mk q := by
  have hRV := rvC_RV hS hmv
  obtain ⟨b1, b2, b3, b5, ρ, ρ1, ρ2⟩ := hS
  have key : ∀ (k q : Nat), ρ q ≤ k → q < n → K q → X (10 + q) = rvC n ev mk q := by
    intro k
    induction k with
    | zero =>
      intro q hk hq hKq
      rw [hX q hq hKq, hRV.1 q hq]
      refine b2 q hq _ _ (fun a ha => ?_)
      rcases ha with ⟨a1, a2⟩ | ⟨r', r1, r2, r3⟩
      · unfold envf
        rw [if_pos a1]
        exact hm q a hq hKq a1 a2
      · exact absurd (ρ2 q r' hq r1 r2) (by omega)
    | succ k ih =>
      intro q hk hq hKq
      rw [hX q hq hKq, hRV.1 q hq]
      refine b2 q hq _ _ (fun a ha => ?_)
      rcases ha with ⟨a1, a2⟩ | ⟨r', r1, r2, r3⟩
      · unfold envf
        rw [if_pos a1]
        exact hm q a hq hKq a1 a2
      · unfold envf
        rw [if_neg (by omega), r3, show 10 + r' - 10 = r' by omega]
        have := ρ2 q r' hq r1 r2
        exact ih r' (by omega) r1 (hK q r' hq hKq r1 r2)
  exact fun q hq hKq => key (ρ q) q (Nat.le_refl _) hq hKq
/-- a rule and what is below it -/
def undK (n : Nat) (ed : Nat → Nat → Prop) (r q : Nat) : Prop := q = r ∨ blN n ed r (10 + q)
theorem undK_cl {n : Nat} {ed : Nat → Nat → Prop} (hn : n ≤ 12) {r q q' : Nat} (hr : r < n) (hq : q < n) (h : undK n ed r q) (hq' : q' < n) (he : ed q q') : undK n ed r q' := by
  refine Or.inr ?_
  have e2 : phB (10 + q') = q' := phB_r q'
  rcases h with rfl | h
  · exact (blN_step hn hr _).mpr (Or.inl ⟨by omega, by rw [e2]; exact he⟩)
  · unfold blN at h ⊢
    rw [phB_r] at h
    rw [e2]
    exact ⟨by omega, rch_tr 22 _ q _ (by omega) h.2 (rch_up ⟨hq, he⟩)⟩
theorem goal_K {n : Nat} {ed : Nat → Nat → Prop} {r g : Nat} {bl : Nat} (hbl : ∀ a, hasB bl a ↔ blN n ed r a) (hg : g = bl ||| 2 ^ (10 + r)) (q : Nat) : hasB g (10 + q) ↔ undK n ed r q := by
  rw [hg, or_bit, pow_bit, hbl]
  unfold undK
  constructor
  · exact fun h => h.elim Or.inr (fun z => Or.inl (by omega))
  · exact fun h => h.elim (fun z => Or.inr (by omega)) Or.inl
/-- the class stands: its book b, n rules, W works, P pupils -/
def CG (σ : am_HS) (b n : Nat) (nm : Nat → Int) (ev : Nat → Den) (ed : Nat → Nat → Prop) (ls : Prop) (W P : Nat) : Prop := σ.2.2 = cH b ∧ b < 2 ∧ GC σ ∧ rgC σ ∧ CB b n nm ev ed ls σ ∧ BkS n ev ed ∧ hI σ 0 8 = (W : Int) ∧ hI σ 0 7 = (P : Int) ∧ RKc σ ∧ ∀ r a, r < n → ed r (12 + a) → a < W
theorem CG.fr {σ s : am_HS} {b n : Nat} {nm : Nat → Int} {ev : Nat → Den} {ed : Nat → Nat → Prop} {ls : Prop} {W P : Nat} (h : CG σ b n nm ev ed ls W P) (f : FrR σ s) (k : RKc s) : CG s b n nm ev ed ls W P := by
  obtain ⟨h1, h2, ⟨g1, g2, g3⟩, h4, h5, h6, h7, h8, h9, h10⟩ := h
  refine ⟨f.1.trans h1, h2, ⟨by rw [f.2 0 7 (by omega)]; exact g1, by rw [f.2 0 8 (by omega)]; exact g2, fun j hj => by rw [f.2 8 j (by omega)]; exact g3 j hj⟩, h4.of (fun o j ho => f.2 o j (by omega)), f.cb h5, h6, (f.2 0 8 (by omega)).trans h7, (f.2 0 7 (by omega)).trans h8, k, h10⟩
/-- the marks of a pupil -/
def mkOK (σ : am_HS) (W p : Nat) (mk : Nat → Vl) : Prop := (∀ w, vok (mk w)) ∧ ∀ w, w < W → wvC σ (10 * p + w) w = mk w
theorem SeI.rk {n B g sc i : Nat} {ev : Nat → Den} {ed : Nat → Nat → Prop} {X0 X : Nat → Vl} {σ s : am_HS} (h : SeI n B ev ed g sc X0 σ i X s) (hk : RKc σ) : RKc s := by
  obtain ⟨_, c, c1, c2⟩ := hk
  exact ⟨⟨X, h.2.1⟩, c, (h.1.hI _ _).trans c1, c2⟩
theorem LdI.rk {σ s : am_HS} {p k : Nat} {X0 X : Nat → Vl} (h : LdI σ p k X0 X s) (hk : RKc σ) : RKc s := by
  obtain ⟨_, c, c1, c2⟩ := hk
  exact ⟨⟨X, h.2.2.1⟩, c, h.2.1.trans c1, c2⟩
/-- all that is below a rule was reckoned anew -/
theorem settle_K {n B g r bl : Nat} {nm : Nat → Int} {ev : Nat → Den} {ed : Nat → Nat → Prop} {ls : Prop} {X0 X : Nat → Vl} {σ s : am_HS} (hC : CB B n nm ev ed ls σ) (hI0 : SeI n B ev ed g 4194303 X0 σ n X s) (hbl : ∀ a, hasB bl a ↔ blN n ed r a) (hg : g = bl ||| 2 ^ (10 + r)) : ∀ q, q < n → undK n ed r q → X (10 + q) = ev q X := by
  intro q hq hK
  obtain ⟨i, i1, i2⟩ := hC.2.2.2.2.2.2.2.1 q hq
  exact hI0.2.2.2 i q i1 hq i2 ⟨(goal_K hbl hg q).mpr hK, Or.inl rfl⟩
theorem SeI.mk {n B g sc i : Nat} {ev : Nat → Den} {ed : Nat → Nat → Prop} {X0 X : Nat → Vl} {σ s : am_HS} (h : SeI n B ev ed g sc X0 σ i X s) {a : Nat} (ha : a < 10) : X a = X0 a := h.2.2.1 a (fun r _ e => by omega)
/-- a rule's value, behind the marks' laying out and the reckoning -/
theorem value_K {n B g r bl W p : Nat} {nm : Nat → Int} {ev : Nat → Den} {ed : Nat → Nat → Prop} {ls : Prop} {X0 X1 X mk : Nat → Vl} {σ s s2 : am_HS} (hC : CB B n nm ev ed ls s) (hS : BkS n ev ed) (hWk : ∀ r a, r < n → ed r (12 + a) → a < W) (hW10 : W ≤ 10) (hL : LdI σ p W X0 X1 s) (hI0 : SeI n B ev ed g 4194303 X1 s n X s2) (hbl : ∀ a, hasB bl a ↔ blN n ed r a) (hg : g = bl ||| 2 ^ (10 + r)) (hr : r < n) (hm : mkOK σ W p mk) : X (10 + r) = rvC n ev mk r := by
  refine set_val hS hm.1 (K := undK n ed r) (fun q q' a b c d => undK_cl hC.2.1 hr a b c d) (settle_K hC hI0 hbl hg) (fun q a hq hK ha he => ?_) r hr (Or.inl rfl)
  rw [hI0.mk ha, (hL.2.2.2.1 a (hWk q a hq he)).1]
  exact hm.2 a (hWk q a hq he)
/-- whether a work is open -/
def opC_ (σ : am_HS) (n : Nat) (rv : Nat → Vl) (w : Nat) : Prop := ¬ (0 ≤ hI σ (37 + w) 4 ∧ hI σ (37 + w) 4 < (n : Int)) ∨ atL (rv (hI σ (37 + w) 4).toNat) (hI σ (37 + w) 5)
theorem cc6_isOpen {D : Nat} (hD : 9 ≤ D) (σ : am_HS) {b n : Nat} {nm : Nat → Int} {ev : Nat → Den} {ed : Nat → Nat → Prop} {ls : Prop} {W P : Nat} (hG : CG σ b n nm ev ed ls W P) (p w : Nat) (hp : p < P) (hw : w < W) {mk : Nat → Vl} (hm : mkOK σ W p mk) : am_Do lc D mX6_isOpen σ [vR (some 0), vI (p : Int), vR (some (37 + w))] (qI fun z s => (z = 1 ∧ opC_ σ n (rvC n ev mk) w ∨ z = 0 ∧ ¬ opC_ σ n (rvC n ev mk) w) ∧ FrR σ s ∧ RKc s) := by
  obtain ⟨hf, hb2, hg, hrg, hC, hS, hW, hP, hRK, hWk⟩ := id hG
  obtain ⟨g1, g2, g3⟩ := id hg
  obtain ⟨⟨X0, hX0⟩, cc, hcc, hcc2⟩ := id hRK
  have hn12 : n ≤ 12 := hC.2.1
  have hN : hI σ (6 + b) 0 = (n : Int) := hC.2.2.1
  have hb : b < 2 := hb2
  have hW10 : W ≤ 10 := by omega
  have hP6 : P ≤ 6 := by omega
  have hwr := hrg.2 w (by omega)
  obtain ⟨d, rfl⟩ : ∃ d, D = d + 1 := ⟨D - 1, by omega⟩
  refine am_enter rfl rfl (Nat.le_of_ble_eq_true rfl) ?_
  refine g_aload_n dX6_isOpen_0 rfl ?_
  refine g_aload_n dX6_isOpen_1 rfl ?_
  refine g_getI dX6_isOpen_2 tf_6_148 (lc_w (by omega)) rfl ?_
  refine g_callvI dX6_isOpen_5 tm_6_134 rfl ⟨rfl, rfl⟩ rfl (Nat.le_of_ble_eq_true rfl) (cc6_isRule (by omega) σ hf _ hb2 (by omega)) (fun z5 s5 h5 => ?_)
  obtain ⟨h5, e5⟩ := h5
  obtain rfl := e5.symm
  refine g_if_ne (tgt := 13) dX6_isOpen_8 (by decide) (fun c8 => ?_) (fun c8 => ?_)
  · obtain ⟨r, hr⟩ : ∃ r : Nat, hI σ (37 + w) 4 = (r : Int) := ⟨(hI σ (37 + w) 4).toNat, by omega⟩
    have hrn : r < n := by omega
    refine g_aload_n dX6_isOpen_13 rfl ?_
    refine g_iload_n dX6_isOpen_14 rfl ?_
    refine g_callvV dX6_isOpen_15 tm_6_226 rfl ⟨rfl, rfl⟩ rfl (Nat.le_of_ble_eq_true rfl) (cc6_load (by omega) σ hf hg hrg W hW p (by omega) hX0) (fun s15 h15 => ?_)
    obtain ⟨X1, hL1⟩ := h15
    have hf1 : s15.2.2 = cH b := hL1.1.1.trans hf
    have hC1 := hL1.1.cb hC
    have hN1 := hC1.2.2.1
    obtain ⟨bl, l1, l2, l3⟩ := hC1.2.2.2.2.2.2.1.1 _ hrn
    refine g_aload_n dX6_isOpen_18 rfl ?_
    refine g_getA dX6_isOpen_19 tf_6_35 rfl rfl (crf (by first | exact hf | exact hf1 | exact hf2) rfl) ?_
    refine g_aload_n dX6_isOpen_22 rfl ?_
    refine g_getA dX6_isOpen_23 tf_6_42 rfl rfl (crf (by first | exact hf | exact hf1 | exact hf2) rfl) ?_
    refine g_aload_n dX6_isOpen_26 rfl ?_
    refine g_getA dX6_isOpen_27 tf_6_42 rfl rfl (crf (by first | exact hf | exact hf1 | exact hf2) rfl) ?_
    refine g_aload_n dX6_isOpen_30 rfl ?_
    refine g_getI dX6_isOpen_31 tf_6_148 (lc_w (by omega)) rfl ?_
    have e4n : hI s15 (37 + w) 4 = (r : Int) := (hL1.1.2 _ _ (by omega)).trans hr
    rw [e4n]
    refine g_callvI dX6_isOpen_34 tm_6_229 rfl ⟨rfl, rfl⟩ (lc_b hb2) (Nat.le_of_ble_eq_true rfl) (cc0_goal (by omega) s15 hf1 hb2 n hN1 hn12 r hrn bl l1 l2) (fun z34 s34 h34 => ?_)
    obtain ⟨h34, e34⟩ := h34
    obtain rfl := e34.symm
    subst h34
    have hgl : (bl ||| 2 ^ (10 + r)) < 4194304 := or_lt22 l2 (pow_lt22 (by omega))
    refine g_ldc dX6_isOpen_37 ti_6_232 ⟨by decide, by decide⟩ ?_
    refine g_callvV dX6_isOpen_39 tm_6_233 rfl ⟨rfl, rfl⟩ rfl (Nat.le_of_ble_eq_true rfl) (cc2_settle (by omega) hf1 hC1 hS hL1.2.2.1 (bl ||| 2 ^ (10 + r)) 4194303 hgl (by decide)) (fun s39 h39 => ?_)
    obtain ⟨X2, hI2⟩ := h39
    have hval := value_K hC1 hS hWk hW10 hL1 hI2 l3 rfl hrn hm
    have hf2 : s39.2.2 = cH b := hI2.1.2.1.trans hf1
    have hfr : FrR σ s39 := hL1.1.tr hI2.1.fr
    have hrk : RKc s39 := hI2.rk (hL1.rk hRK)
    obtain ⟨hvk, hvl⟩ := hI2.2.1 (10 + r) (by omega)
    rw [hval] at hvk hvl
    refine g_aload_n dX6_isOpen_42 rfl ?_
    refine g_getA dX6_isOpen_43 tf_6_35 rfl rfl (crf (by first | exact hf | exact hf1 | exact hf2) rfl) ?_
    refine g_aload_n dX6_isOpen_46 rfl ?_
    refine g_getI dX6_isOpen_47 tf_6_148 (lc_w (by omega)) rfl ?_
    have e4m : hI s39 (37 + w) 4 = (r : Int) := (hfr.2 _ _ (by omega)).trans hr
    rw [e4m]
    refine g_callvL dX6_isOpen_50 tm_6_237 rfl ⟨rfl, rfl⟩ rfl (Nat.le_of_ble_eq_true rfl) (cc2_ofRule (by omega) s39 hf2 r (by omega)) (fun z50 s50 h50 => ?_)
    obtain ⟨h50, e50⟩ := h50
    obtain rfl := e50.symm
    rw [hvl] at h50
    refine g_aload_n dX6_isOpen_53 rfl ?_
    refine g_getI dX6_isOpen_54 tf_6_151 (lc_w (by omega)) rfl ?_
    have e5n : hI s39 (37 + w) 5 = hI σ (37 + w) 5 := hfr.2 _ _ (by omega)
    refine g_callsI dX6_isOpen_57 tm_6_310 rfl ⟨Nat.le_of_ble_eq_true rfl, rfl, rfl⟩ (Nat.le_of_ble_eq_true rfl) (cc4_isAtLeast (by omega) s39 _ hvk h50 _ (by rw [e5n]; exact hwr.2.2.2.2.2)) (fun z57 s57 h57 => ?_)
    obtain ⟨h57, e57⟩ := h57
    obtain rfl := e57.symm
    refine g_ireturn dX6_isOpen_60 (Or.inr ⟨rfl, by omega⟩) ⟨_, rfl, ?_⟩
    refine ⟨?_, hfr, hrk⟩
    have hop : opC_ σ n (rvC n ev mk) w ↔ atL (rvC n ev mk r) (hI σ (37 + w) 5) := by
      unfold opC_
      rw [hr]
      constructor
      · rintro (h | h)
        · exact absurd (show (0 : Int) ≤ (r : Int) ∧ (r : Int) < (n : Int) by omega) h
        · exact h
      · exact Or.inr
    rw [hop, ← e5n]
    exact h57
  · refine g_iconst dX6_isOpen_11 ⟨by decide, by decide⟩ ?_
    refine g_ireturn dX6_isOpen_12 (Or.inr ⟨rfl, by omega⟩) ⟨_, rfl, ?_⟩
    exact ⟨Or.inl ⟨rfl, Or.inl (by omega)⟩, FrR.rf σ, hRK⟩

