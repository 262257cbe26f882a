/-! THE REFERENCE: what is open, what a rule comes to -/
theorem vt_at {v : Vl} {z U W m : Int} (h : vt v z U W) (hv : vok v) : atL v m ↔ z = 1 ∧ m * W ≤ U := by
  rcases v with _ | _ | q
  · have hz : z = 0 := h
    exact ⟨fun h => h.elim, fun h => by omega⟩
  · have hz : z = 2 := h
    exact ⟨fun h => h.elim, fun h => by omega⟩
  · obtain ⟨h1, h2, h3⟩ := h
    subst h2; subst h3
    exact ⟨fun h => ⟨h1, h⟩, fun h => h.2⟩
theorem vt_rg {v : Vl} {z U W : Int} (h : vt v z U W) (hv : vok v) (hz : z = 1) : -1000000000 ≤ U ∧ U ≤ 1000000000 ∧ 1 ≤ W ∧ W ≤ 1000000000 := by
  rcases v with _ | _ | q
  · have hz : z = 0 := h
    omega
  · have hz : z = 2 := h
    omega
  · obtain ⟨h1, h2, h3⟩ := h
    subst h2; subst h3
    obtain ⟨a, b, c, d, -⟩ := hv
    exact ⟨a, b, c, d⟩
/-- the book in use, as reckoning needs it -/
def BK (N n : Nat) (lo hi ρ : Nat → Nat) (ev : Nat → Den) (td : TD) (σ : am_HS) : Prop := RC N n lo hi ρ ev td σ ∧ ∀ r, r < n → ρ r < 12
theorem FrM.bk {N n : Nat} {lo hi ρ : Nat → Nat} {ev : Nat → Den} {td : TD} {σ s : am_HS} (f : FrM σ s) (h : BK N n lo hi ρ ev td σ) : BK N n lo hi ρ ev td s := ⟨f.rc h.1, h.2⟩
/-- a rule's value, of a state behind 'begins' -/
theorem cm_rule {N n : Nat} {lo hi ρ : Nat → Nat} {ev : Nat → Den} {td : TD} {σ : am_HS} {D : Nat} (hD : 768 ≤ D) (hR : BK N n lo hi ρ ev td σ) {p : Nat} {mk rvl : Nat → Vl} (hV : RV n ev mk rvl) (hS : RS0 p mk σ) (hM : Mem n rvl σ) {r : Nat} (hr : r < n) : am_Do lm D mX7_values σ [vR (some 0), vI (r : Int)] (qV fun s => FrM σ s ∧ BK N n lo hi ρ ev td s ∧ RS0 p mk s ∧ Mem n rvl s ∧ vt (rvl r) (hI s 0 48) (hL s 0 49) (hL s 0 50)) :=
  am_Do.mono (cm_valuesK N n lo hi ρ ev td p mk rvl hV 12 r hr (hR.2 r hr) D σ (by omega) hR.1 hS hM) (fun r s h => ⟨h.1, h.2.1.fr, h.2.1.fr.bk hR, h.2.2⟩)
def opS (σ : am_HS) (rvl : Nat → Vl) (w : Nat) : Prop := hI σ 7 w < 0 ∨ atL (rvl (hI σ 7 w).toNat) (hI σ 8 w)

theorem cm_isOpen {D : Nat} (hD : 770 ≤ D) (σ : am_HS) (hf : σ.2.2 = mH) (hb : rgM σ) {N n : Nat} {lo hi ρ : Nat → Nat} {ev : Nat → Den} {td : TD} (hR : BK N n lo hi ρ ev td σ) (p w : Nat) (hp : p < 6) (hw : w < 10) (hnd : hI σ 7 w < n) {rvl : Nat → Vl} (hV : RV n ev (fun w => mtM σ p w (-1)) rvl) : am_Do lm D mX7_isOpen σ [vR (some 0), vI (p : Int), vI (w : Int)] (qI fun z s => (z = 1 ∧ opS σ rvl w ∨ z = 0 ∧ ¬ opS σ rvl w) ∧ FrM σ s) := by
  obtain ⟨d, rfl⟩ : ∃ d, D = d + 1 := ⟨D - 1, by omega⟩
  refine am_enter rfl rfl (Nat.le_of_ble_eq_true rfl) ?_
  have b8 : 0 ≤ hI σ 8 w ∧ hI σ 8 w ≤ 9999 := hb 8 w
  refine g_aload_n dX7_isOpen_0 rfl ?_
  refine g_getA dX7_isOpen_1 tf_7_28 rfl rfl (mrf hf rfl) ?_
  refine g_iload_n dX7_isOpen_4 rfl ?_
  refine g_ialdN (w) dX7_isOpen_5 rfl (by omega) (by omega) ?_
  refine g_if_ge (tgt := 11) dX7_isOpen_6 (by decide) (fun c6 => ?_) (fun c6 => ?_)
  · refine g_aload_n dX7_isOpen_11 rfl ?_
    refine g_iload_n dX7_isOpen_12 rfl ?_
    refine g_callvV dX7_isOpen_13 tm_7_246 rfl ⟨rfl, rfl⟩ rfl (Nat.le_of_ble_eq_true rfl) (cm_begins (by omega) _ hf _) (fun s13 h13 => ?_)
    obtain rfl := h13
    have hS := bg_rs hf hb hp
    have hM := bg_mem (σ := σ) hR.1.1 rvl p
    have f0 := FrM_bg σ p
    have hR2 := f0.bk hR
    obtain ⟨r, hr⟩ : ∃ r : Nat, hI σ 7 w = (r : Int) := ⟨(hI σ 7 w).toNat, by omega⟩
    have hrn : r < n := by omega
    change am_Go _ _ _ _ _ _ _ _ _ (bg σ p) _
    have hf2 := hS.1
    have hf := hf2
    refine g_aload_n dX7_isOpen_16 rfl ?_
    refine g_aload_n dX7_isOpen_17 rfl ?_
    refine g_getA dX7_isOpen_18 tf_7_28 rfl rfl (mrf hf rfl) ?_
    refine g_iload_n dX7_isOpen_21 rfl ?_
    refine g_ialdN (w) dX7_isOpen_22 rfl (by omega) (by omega) ?_
    rw [show hI (bg σ (p : Int)) 7 w = (r : Int) from (f0.a (by decide) (by decide)).trans hr]
    refine g_callvV dX7_isOpen_23 tm_7_249 rfl ⟨rfl, rfl⟩ rfl (Nat.le_of_ble_eq_true rfl) (cm_rule (by omega) hR2 hV hS hM hrn) (fun s23 h23 => ?_)
    obtain ⟨f1, -, hS1, -, hv1⟩ := h23
    have ff := f0.tr f1
    have hf3 := hS1.1
    have hf := hf3
    have hok := hV.2.2 r
    refine g_aload_n dX7_isOpen_26 rfl ?_
    refine g_getI dX7_isOpen_27 tf_7_252 rfl rfl ?_
    refine g_iconst dX7_isOpen_30 ⟨by decide, by decide⟩ ?_
    refine g_icmp_ne (tgt := 58) dX7_isOpen_31 (by decide) (fun c31 => ?_) (fun c31 => ?_)
    · refine g_iconst dX7_isOpen_58 ⟨by decide, by decide⟩ ?_
      refine g_ireturn dX7_isOpen_59 (Or.inr ⟨rfl, by omega⟩) ⟨_, rfl, ?_⟩
      first
        | exact ⟨Or.inl ⟨rfl, Or.inl (by omega)⟩, FrM.rf _⟩
        | (have hat := vt_at (m := hI σ 8 w) hv1 hok
           have hop : opS σ rvl w ↔ hI σ 7 w < 0 ∨ (hI s23 0 48 = 1 ∧ hI σ 8 w * hL s23 0 50 ≤ hL s23 0 49) := by
             have e : (hI σ 7 w).toNat = r := by omega
             unfold opS
             rw [e, hat]
           refine ⟨?_, ff⟩
           first
             | exact Or.inl ⟨rfl, hop.mpr (Or.inr ⟨by omega, by omega⟩)⟩
             | exact Or.inr ⟨rfl, fun h => by have := hop.mp h; omega⟩)
    · refine g_aload_n dX7_isOpen_34 rfl ?_
      refine g_getL dX7_isOpen_35 tf_7_255 rfl rfl ?_
      refine g_aload_n dX7_isOpen_38 rfl ?_
      refine g_getA dX7_isOpen_39 tf_7_31 rfl rfl (mrf hf rfl) ?_
      refine g_iload_n dX7_isOpen_42 rfl ?_
      refine g_ialdN (w) dX7_isOpen_43 rfl (by omega) (by omega) ?_
      refine g_i2l dX7_isOpen_44 ?_
      refine g_aload_n dX7_isOpen_45 rfl ?_
      refine g_getL dX7_isOpen_46 tf_7_259 rfl rfl ?_
      have g1 := vt_rg hv1 hok (by omega)
      have g2 := mul_b2 (M := 9999) (N := 1000000000) (x := hI σ 8 w) (y := hL s23 0 50) (by omega) (by omega)
      rw [show hI s23 8 w = hI σ 8 w from ff.a (by decide) (by decide)]
      refine g_lmul dX7_isOpen_49 rfl ⟨by omega, by omega⟩ ?_
      refine g_lc_lt (tgt := 58) dX7_isOpen_50 dX7_isOpen_51 (by decide) (fun c51 => ?_) (fun c51 => ?_)
      · refine g_iconst dX7_isOpen_58 ⟨by decide, by decide⟩ ?_
        refine g_ireturn dX7_isOpen_59 (Or.inr ⟨rfl, by omega⟩) ⟨_, rfl, ?_⟩
        first
          | exact ⟨Or.inl ⟨rfl, Or.inl (by omega)⟩, FrM.rf _⟩
          | (have hat := vt_at (m := hI σ 8 w) hv1 hok
             have hop : opS σ rvl w ↔ hI σ 7 w < 0 ∨ (hI s23 0 48 = 1 ∧ hI σ 8 w * hL s23 0 50 ≤ hL s23 0 49) := by
               have e : (hI σ 7 w).toNat = r := by omega
               unfold opS
               rw [e, hat]
             refine ⟨?_, ff⟩
             first
               | exact Or.inl ⟨rfl, hop.mpr (Or.inr ⟨by omega, by omega⟩)⟩
               | exact Or.inr ⟨rfl, fun h => by have := hop.mp h; omega⟩)
      · refine g_iconst dX7_isOpen_54 ⟨by decide, by decide⟩ ?_
        refine g_goto (tgt := 59) dX7_isOpen_55 (by decide) ?_
        refine g_ireturn dX7_isOpen_59 (Or.inr ⟨rfl, by omega⟩) ⟨_, rfl, ?_⟩
        first
          | exact ⟨Or.inl ⟨rfl, Or.inl (by omega)⟩, FrM.rf _⟩
          | (have hat := vt_at (m := hI σ 8 w) hv1 hok
             have hop : opS σ rvl w ↔ hI σ 7 w < 0 ∨ (hI s23 0 48 = 1 ∧ hI σ 8 w * hL s23 0 50 ≤ hL s23 0 49) := by
               have e : (hI σ 7 w).toNat = r := by omega
               unfold opS
               rw [e, hat]
             refine ⟨?_, ff⟩
             first
               | exact Or.inl ⟨rfl, hop.mpr (Or.inr ⟨by omega, by omega⟩)⟩
               | exact Or.inr ⟨rfl, fun h => by have := hop.mp h; omega⟩)
  · refine g_iconst dX7_isOpen_9 ⟨by decide, by decide⟩ ?_
    refine g_ireturn dX7_isOpen_10 (Or.inr ⟨rfl, by omega⟩) ⟨_, rfl, ?_⟩
    first
      | exact ⟨Or.inl ⟨rfl, Or.inl (by omega)⟩, FrM.rf _⟩
      | (have hat := vt_at (m := hI σ 8 w) hv1 hok
         have hop : opS σ rvl w ↔ hI σ 7 w < 0 ∨ (hI s23 0 48 = 1 ∧ hI σ 8 w * hL s23 0 50 ≤ hL s23 0 49) := by
           have e : (hI σ 7 w).toNat = r := by omega
           unfold opS
           rw [e, hat]
         refine ⟨?_, ff⟩
         first
           | exact Or.inl ⟨rfl, hop.mpr (Or.inr ⟨by omega, by omega⟩)⟩
           | exact Or.inr ⟨rfl, fun h => by have := hop.mp h; omega⟩)
