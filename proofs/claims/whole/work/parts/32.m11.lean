/-! THE REFERENCE: what is open, what a rule comes to -/
theorem vt_at {v : Vl} {z U W m : Int} (h : vt v z U W) (hv : vok v) : atL v m ↔ z = 1 ∧ m * W ≤ U := by
  rcases v with _ | _ | q
  · have hz : z = 0 := h
    exact ⟨fun h => h.elim, fun h => by omega⟩
  · have hz : z = 2 := h
    exact ⟨fun h => h.elim, fun h => by omega⟩
  · obtain ⟨h1, h2, h3⟩ := h
    subst h2; subst h3
    exact ⟨fun h => ⟨h1, h⟩, fun h => h.2⟩
theorem vt_rg {v : Vl} {z U W : Int} (h : vt v z U W) (hv : vok v) (hz : z = 1) : -1000000000 ≤ U ∧ U ≤ 1000000000 ∧ 1 ≤ W ∧ W ≤ 1000000000 := by
  rcases v with _ | _ | q
  · have hz : z = 0 := h
    omega
  · have hz : z = 2 := h
    omega
  · obtain ⟨h1, h2, h3⟩ := h
    subst h2; subst h3
    obtain ⟨a, b, c, d, -⟩ := hv
    exact ⟨a, b, c, d⟩
/-- the book in use, as reckoning needs it -/
def BK (N n : Nat) (lo hi ρ : Nat → Nat) (ev : Nat → Den) (td : TD) (σ : am_HS) : Prop := RC N n lo hi ρ ev td σ ∧ ∀ r, r < n → ρ r < 12
theorem FrM.bk {N n : Nat} {lo hi ρ : Nat → Nat} {ev : Nat → Den} {td : TD} {σ s : am_HS} (f : FrM σ s) (h : BK N n lo hi ρ ev td σ) : BK N n lo hi ρ ev td s := ⟨f.rc h.1, h.2⟩
/-- a rule's value, of a state behind 'begins' -/
theorem cm_rule {N n : Nat} {lo hi ρ : Nat → Nat} {ev : Nat → Den} {td : TD} {σ : am_HS} {D : Nat} (hD : 768 ≤ D) (hR : BK N n lo hi ρ ev td σ) {p : Nat} {mk rvl : Nat → Vl} (hV : RV n ev mk rvl) (hS : RS0 p mk σ) (hM : Mem n rvl σ) {r : Nat} (hr : r < n) : am_Do lm D mX7_values σ [vR (some 0), vI (r : Int)] (qV fun s => FrM σ s ∧ BK N n lo hi ρ ev td s ∧ RS0 p mk s ∧ Mem n rvl s ∧ vt (rvl r) (hI s 0 48) (hL s 0 49) (hL s 0 50)) :=
  am_Do.mono (cm_valuesK N n lo hi ρ ev td p mk rvl hV 12 r hr (hR.2 r hr) D σ (by omega) hR.1 hS hM) (fun r s h => ⟨h.1, h.2.1.fr, h.2.1.fr.bk hR, h.2.2⟩)
def opS (σ : am_HS) (rvl : Nat → Vl) (w : Nat) : Prop := hI σ 7 w < 0 ∨ atL (rvl (hI σ 7 w).toNat) (hI σ 8 w)

theorem cm_isOpen {D : Nat} (hD : 770 ≤ D) (σ : am_HS) (hf : σ.2.2 = mH) (hb : rgM σ) {N n : Nat} {lo hi ρ : Nat → Nat} {ev : Nat → Den} {td : TD} (hR : BK N n lo hi ρ ev td σ) (p w : Nat) (hp : p < 6) (hw : w < 10) (hnd : hI σ 7 w < n) {rvl : Nat → Vl} (hV : RV n ev (fun w => mtM σ p w (-1)) rvl) : am_Do lm D mX7_isOpen σ [vR (some 0), vI (p : Int), vI (w : Int)] (qI fun z s => (z = 1 ∧ opS σ rvl w ∨ z = 0 ∧ ¬ opS σ rvl w) ∧ FrM σ s) := by
  obtain ⟨d, rfl⟩ : ∃ d, D = d + 1 := ⟨D - 1, by omega⟩
  refine am_enter rfl rfl (Nat.le_of_ble_eq_true rfl) ?_
  have b8 : 0 ≤ hI σ 8 w ∧ hI σ 8 w ≤ 9999 := hb 8 w
  refine g_aload_n dX7_isOpen_0 rfl ?_
  refine g_getA dX7_isOpen_1 tf_7_28 rfl rfl (mrf hf rfl) ?_
  refine g_iload_n dX7_isOpen_4 rfl ?_
  refine g_ialdN (w) dX7_isOpen_5 rfl (by omega) (by omega) ?_
  refine g_if_ge (tgt := 11) dX7_isOpen_6 (by decide) (fun c6 => ?_) (fun c6 => ?_)
  · refine g_aload_n dX7_isOpen_11 rfl ?_
    refine g_iload_n dX7_isOpen_12 rfl ?_
    refine g_callvV dX7_isOpen_13 tm_7_246 rfl ⟨rfl, rfl⟩ rfl (Nat.le_of_ble_eq_true rfl) (cm_begins (by omega) _ hf _) (fun s13 h13 => ?_)
    obtain rfl := h13
    have hS := bg_rs hf hb hp
    have hM := bg_mem (σ := σ) hR.1.1 rvl p
    have f0 := FrM_bg σ p
    have hR2 := f0.bk hR
    obtain ⟨r, hr⟩ : ∃ r : Nat, hI σ 7 w = (r : Int) := ⟨(hI σ 7 w).toNat, by omega⟩
    have hrn : r < n := by omega
    change am_Go _ _ _ _ _ _ _ _ _ (bg σ p) _
    have hf2 := hS.1
    have hf := hf2
    refine g_aload_n dX7_isOpen_16 rfl ?_
    refine g_aload_n dX7_isOpen_17 rfl ?_
    refine g_getA dX7_isOpen_18 tf_7_28 rfl rfl (mrf hf rfl) ?_
    refine g_iload_n dX7_isOpen_21 rfl ?_
    refine g_ialdN (w) dX7_isOpen_22 rfl (by omega) (by omega) ?_
    rw [show hI (bg σ (p : Int)) 7 w = (r : Int) from (f0.a (by decide) (by decide)).trans hr]
    refine g_callvV dX7_isOpen_23 tm_7_249 rfl ⟨rfl, rfl⟩ rfl (Nat.le_of_ble_eq_true rfl) (cm_rule (by omega) hR2 hV hS hM hrn) (fun s23 h23 => ?_)
    obtain ⟨f1, -, hS1, -, hv1⟩ := h23
    have ff := f0.tr f1
    have hf3 := hS1.1
    have hf := hf3
    have hok := hV.2.2 r
    refine g_aload_n dX7_isOpen_26 rfl ?_
    refine g_getI dX7_isOpen_27 tf_7_252 rfl rfl ?_
    refine g_iconst dX7_isOpen_30 ⟨by decide, by decide⟩ ?_
    refine g_icmp_ne (tgt := 58) dX7_isOpen_31 (by decide) (fun c31 => ?_) (fun c31 => ?_)
    · refine g_iconst dX7_isOpen_58 ⟨by decide, by decide⟩ ?_
      refine g_ireturn dX7_isOpen_59 (Or.inr ⟨rfl, by omega⟩) ⟨_, rfl, ?_⟩
      first
        | exact ⟨Or.inl ⟨rfl, Or.inl (by omega)⟩, FrM.rf _⟩
        | (have hat := vt_at (m := hI σ 8 w) hv1 hok
           have hop : opS σ rvl w ↔ hI σ 7 w < 0 ∨ (hI s23 0 48 = 1 ∧ hI σ 8 w * hL s23 0 50 ≤ hL s23 0 49) := by
             have e : (hI σ 7 w).toNat = r := by omega
             unfold opS
             rw [e, hat]
           refine ⟨?_, ff⟩
           first
             | exact Or.inl ⟨rfl, hop.mpr (Or.inr ⟨by omega, by omega⟩)⟩
             | exact Or.inr ⟨rfl, fun h => by have := hop.mp h; omega⟩)
    · refine g_aload_n dX7_isOpen_34 rfl ?_
      refine g_getL dX7_isOpen_35 tf_7_255 rfl rfl ?_
      refine g_aload_n dX7_isOpen_38 rfl ?_
      refine g_getA dX7_isOpen_39 tf_7_31 rfl rfl (mrf hf rfl) ?_
      refine g_iload_n dX7_isOpen_42 rfl ?_
      refine g_ialdN (w) dX7_isOpen_43 rfl (by omega) (by omega) ?_
      refine g_i2l dX7_isOpen_44 ?_
      refine g_aload_n dX7_isOpen_45 rfl ?_
      refine g_getL dX7_isOpen_46 tf_7_259 rfl rfl ?_
      have g1 := vt_rg hv1 hok (by omega)
      have g2 := mul_b2 (M := 9999) (N := 1000000000) (x := hI σ 8 w) (y := hL s23 0 50) (by omega) (by omega)
      rw [show hI s23 8 w = hI σ 8 w from ff.a (by decide) (by decide)]
      refine g_lmul dX7_isOpen_49 rfl ⟨by omega, by omega⟩ ?_
      refine g_lc_lt (tgt := 58) dX7_isOpen_50 dX7_isOpen_51 (by decide) (fun c51 => ?_) (fun c51 => ?_)
      · refine g_iconst dX7_isOpen_58 ⟨by decide, by decide⟩ ?_
        refine g_ireturn dX7_isOpen_59 (Or.inr ⟨rfl, by omega⟩) ⟨_, rfl, ?_⟩
        first
          | exact ⟨Or.inl ⟨rfl, Or.inl (by omega)⟩, FrM.rf _⟩
          | (have hat := vt_at (m := hI σ 8 w) hv1 hok
             have hop : opS σ rvl w ↔ hI σ 7 w < 0 ∨ (hI s23 0 48 = 1 ∧ hI σ 8 w * hL s23 0 50 ≤ hL s23 0 49) := by
               have e : (hI σ 7 w).toNat = r := by omega
               unfold opS
               rw [e, hat]
             refine ⟨?_, ff⟩
             first
               | exact Or.inl ⟨rfl, hop.mpr (Or.inr ⟨by omega, by omega⟩)⟩
               | exact Or.inr ⟨rfl, fun h => by have := hop.mp h; omega⟩)
      · refine g_iconst dX7_isOpen_54 ⟨by decide, by decide⟩ ?_
        refine g_goto (tgt := 59) dX7_isOpen_55 (by decide) ?_
        refine g_ireturn dX7_isOpen_59 (Or.inr ⟨rfl, by omega⟩) ⟨_, rfl, ?_⟩
        first
          | exact ⟨Or.inl ⟨rfl, Or.inl (by omega)⟩, FrM.rf _⟩
          | (have hat := vt_at (m := hI σ 8 w) hv1 hok
             have hop : opS σ rvl w ↔ hI σ 7 w < 0 ∨ (hI s23 0 48 = 1 ∧ hI σ 8 w * hL s23 0 50 ≤ hL s23 0 49) := by
               have e : (hI σ 7 w).toNat = r := by omega
               unfold opS
               rw [e, hat]
             refine ⟨?_, ff⟩
             first
               | exact Or.inl ⟨rfl, hop.mpr (Or.inr ⟨by omega, by omega⟩)⟩
               | exact Or.inr ⟨rfl, fun h => by have := hop.mp h; omega⟩)
  · refine g_iconst dX7_isOpen_9 ⟨by decide, by decide⟩ ?_
    refine g_ireturn dX7_isOpen_10 (Or.inr ⟨rfl, by omega⟩) ⟨_, rfl, ?_⟩
    first
      | exact ⟨Or.inl ⟨rfl, Or.inl (by omega)⟩, FrM.rf _⟩
      | (have hat := vt_at (m := hI σ 8 w) hv1 hok
         have hop : opS σ rvl w ↔ hI σ 7 w < 0 ∨ (hI s23 0 48 = 1 ∧ hI σ 8 w * hL s23 0 50 ≤ hL s23 0 49) := by
           have e : (hI σ 7 w).toNat = r := by omega
           unfold opS
           rw [e, hat]
         refine ⟨?_, ff⟩
         first
           | exact Or.inl ⟨rfl, hop.mpr (Or.inr ⟨by omega, by omega⟩)⟩
           | exact Or.inr ⟨rfl, fun h => by have := hop.mp h; omega⟩)
/-- the bounds of what is counted -/
def GM (σ : am_HS) : Prop := (0 ≤ hI σ 0 1 ∧ hI σ 0 1 ≤ 6) ∧ (0 ≤ hI σ 0 2 ∧ hI σ 0 2 ≤ 10) ∧ ∀ k, k < 8 → 0 ≤ hI σ 1 k ∧ hI σ 1 k ≤ 100000
def tgV (v : Vl) : Int := match v with
  | none => 0
  | some none => 2
  | some (some _) => 1
def upV (v : Vl) : Int := match v with
  | some (some q) => q.1
  | _ => 0
def dnV (v : Vl) : Int := match v with
  | some (some q) => q.2
  | _ => 0
theorem vt_tg {v : Vl} {z U W : Int} (h : vt v z U W) : z = tgV v := by
  rcases v with _ | _ | q
  · exact h
  · exact h
  · exact h.1
theorem vt_ud {v : Vl} {z U W : Int} (h : vt v z U W) (hz : z = 1) : U = upV v ∧ W = dnV v := by
  rcases v with _ | _ | q
  · have h : z = 0 := h
    omega
  · have h : z = 2 := h
    omega
  · exact h.2
/-- what 'value' answers -/
def vlA (v : Vl) (what : Int) : Int := if what = 2 then tgV v else if tgV v = 1 then (if what = 0 then upV v else dnV v) else what

theorem cm_opens {D : Nat} (hD : 771 ≤ D) (σ : am_HS) (hf : σ.2.2 = mH) (hb : rgM σ) (hg : GM σ) {N n : Nat} {lo hi ρ : Nat → Nat} {ev : Nat → Den} {td : TD} (hR : BK N n lo hi ρ ev td σ) {rvl : Nat → Nat → Vl} (hV : ∀ p : Nat, p < 6 → RV n ev (fun w => mtM σ p w (-1)) (rvl p)) (hnd : ∀ w, w < 10 → hI σ 7 w < n) (p w : Int) : am_Do lm D mX7_opens σ [vR (some 0), vI p, vI w] (qI fun z s => (¬ (0 ≤ p ∧ p < hI σ 0 1 ∧ 0 ≤ w ∧ w < hI σ 0 2) ∧ z = -1 ∧ s = uI σ 1 1 (hI σ 1 1 + 1)) ∨ ((0 ≤ p ∧ p < hI σ 0 1 ∧ 0 ≤ w ∧ w < hI σ 0 2) ∧ (z = 1 ∧ opS σ (rvl p.toNat) w.toNat ∨ z = 0 ∧ ¬ opS σ (rvl p.toNat) w.toNat) ∧ FrM σ s)) := by
  obtain ⟨hg1, hg2, hrf⟩ := id hg
  obtain ⟨d, rfl⟩ : ∃ d, D = d + 1 := ⟨D - 1, by omega⟩
  refine am_enter rfl rfl (Nat.le_of_ble_eq_true rfl) ?_
  refine g_aload_n dX7_opens_0 rfl ?_
  refine g_iload_n dX7_opens_1 rfl ?_
  refine g_callvI dX7_opens_2 tm_7_151 rfl ⟨rfl, rfl⟩ rfl (Nat.le_of_ble_eq_true rfl) (cm_isPupil (by omega) σ _) (fun z2 s2 h2 => ?_)
  obtain ⟨h2, e2⟩ := h2
  obtain rfl := e2.symm
  refine g_if_eq (tgt := 33) dX7_opens_5 (by decide) (fun c5 => ?_) (fun c5 => ?_)
  · refine g_aload_n dX7_opens_33 rfl ?_
    refine g_iconst dX7_opens_34 ⟨by decide, by decide⟩ ?_
    refine g_callvI dX7_opens_35 tm_7_133 rfl ⟨rfl, rfl⟩ rfl (Nat.le_of_ble_eq_true rfl) (cm_refuse (by omega) σ hf _ ⟨by omega, by omega⟩ hg.2.2) (fun z35 s35 h35 => ?_)
    obtain ⟨rfl, rfl⟩ := h35
    refine g_ireturn dX7_opens_38 (Or.inl rfl) ⟨_, rfl, ?_⟩
    first
      | exact Or.inl ⟨by omega, rfl, rfl⟩
      | (refine Or.inr ⟨by omega, ?_, h19b⟩
         rw [Int.toNat_natCast, Int.toNat_natCast]
         rcases h19a with ⟨a, b⟩ | ⟨a, b⟩
         · first
             | exact Or.inl ⟨rfl, b⟩
             | exact absurd a (by omega)
         · first
             | exact Or.inr ⟨rfl, b⟩
             | exact absurd a (by omega))
  · refine g_aload_n dX7_opens_8 rfl ?_
    refine g_iload_n dX7_opens_9 rfl ?_
    refine g_callvI dX7_opens_10 tm_7_156 rfl ⟨rfl, rfl⟩ rfl (Nat.le_of_ble_eq_true rfl) (cm_isWork (by omega) σ _) (fun z10 s10 h10 => ?_)
    obtain ⟨h10, e10⟩ := h10
    obtain rfl := e10.symm
    refine g_if_eq (tgt := 33) dX7_opens_13 (by decide) (fun c13 => ?_) (fun c13 => ?_)
    · refine g_aload_n dX7_opens_33 rfl ?_
      refine g_iconst dX7_opens_34 ⟨by decide, by decide⟩ ?_
      refine g_callvI dX7_opens_35 tm_7_133 rfl ⟨rfl, rfl⟩ rfl (Nat.le_of_ble_eq_true rfl) (cm_refuse (by omega) σ hf _ ⟨by omega, by omega⟩ hg.2.2) (fun z35 s35 h35 => ?_)
      obtain ⟨rfl, rfl⟩ := h35
      refine g_ireturn dX7_opens_38 (Or.inl rfl) ⟨_, rfl, ?_⟩
      first
        | exact Or.inl ⟨by omega, rfl, rfl⟩
        | (refine Or.inr ⟨by omega, ?_, h19b⟩
           rw [Int.toNat_natCast, Int.toNat_natCast]
           rcases h19a with ⟨a, b⟩ | ⟨a, b⟩
           · first
               | exact Or.inl ⟨rfl, b⟩
               | exact absurd a (by omega)
           · first
               | exact Or.inr ⟨rfl, b⟩
               | exact absurd a (by omega))
    · obtain ⟨p, rfl⟩ : ∃ q : Nat, p = (q : Int) := ⟨p.toNat, by omega⟩
      obtain ⟨w, rfl⟩ : ∃ q : Nat, w = (q : Int) := ⟨w.toNat, by omega⟩
      refine g_aload_n dX7_opens_16 rfl ?_
      refine g_iload_n dX7_opens_17 rfl ?_
      refine g_iload_n dX7_opens_18 rfl ?_
      refine g_callvI dX7_opens_19 tm_7_363 rfl ⟨rfl, rfl⟩ rfl (Nat.le_of_ble_eq_true rfl) (cm_isOpen (by omega) σ hf hb hR p w (by omega) (by omega) (hnd w (by omega)) (hV p (by omega))) (fun z19 s19 h19 => ?_)
      obtain ⟨h19a, h19b⟩ := h19
      refine g_if_eq (tgt := 29) dX7_opens_22 (by decide) (fun c22 => ?_) (fun c22 => ?_)
      · refine g_iconst dX7_opens_29 ⟨by decide, by decide⟩ ?_
        refine g_goto (tgt := 38) dX7_opens_30 (by decide) ?_
        refine g_ireturn dX7_opens_38 (Or.inl rfl) ⟨_, rfl, ?_⟩
        first
          | exact Or.inl ⟨by omega, rfl, rfl⟩
          | (refine Or.inr ⟨by omega, ?_, h19b⟩
             rw [Int.toNat_natCast, Int.toNat_natCast]
             rcases h19a with ⟨a, b⟩ | ⟨a, b⟩
             · first
                 | exact Or.inl ⟨rfl, b⟩
                 | exact absurd a (by omega)
             · first
                 | exact Or.inr ⟨rfl, b⟩
                 | exact absurd a (by omega))
      · refine g_iconst dX7_opens_25 ⟨by decide, by decide⟩ ?_
        refine g_goto (tgt := 38) dX7_opens_26 (by decide) ?_
        refine g_ireturn dX7_opens_38 (Or.inl rfl) ⟨_, rfl, ?_⟩
        first
          | exact Or.inl ⟨by omega, rfl, rfl⟩
          | (refine Or.inr ⟨by omega, ?_, h19b⟩
             rw [Int.toNat_natCast, Int.toNat_natCast]
             rcases h19a with ⟨a, b⟩ | ⟨a, b⟩
             · first
                 | exact Or.inl ⟨rfl, b⟩
                 | exact absurd a (by omega)
             · first
                 | exact Or.inr ⟨rfl, b⟩
                 | exact absurd a (by omega))

theorem cm_value {D : Nat} (hD : 771 ≤ D) (σ : am_HS) (hf : σ.2.2 = mH) (hb : rgM σ) (hg : GM σ) {N n : Nat} {lo hi ρ : Nat → Nat} {ev : Nat → Den} {td : TD} (hR : BK N n lo hi ρ ev td σ) (hm : hI σ 23 N = (n : Int)) {rvl : Nat → Nat → Vl} (hV : ∀ p : Nat, p < 6 → RV n ev (fun w => mtM σ p w (-1)) (rvl p)) (p r what : Int) : am_Do lm D mX7_value σ [vR (some 0), vI p, vI r, vI what] (qI fun z s => (¬ (0 ≤ p ∧ p < hI σ 0 1 ∧ 0 ≤ r ∧ r < (n : Int)) ∧ z = 2000000000 + 1 ∧ s = uI σ 1 1 (hI σ 1 1 + 1)) ∨ ((0 ≤ p ∧ p < hI σ 0 1 ∧ 0 ≤ r ∧ r < (n : Int)) ∧ ¬ (0 ≤ what ∧ what < 3) ∧ z = 2000000000 + 2 ∧ s = uI σ 1 2 (hI σ 1 2 + 1)) ∨ ((0 ≤ p ∧ p < hI σ 0 1 ∧ 0 ≤ r ∧ r < (n : Int)) ∧ (0 ≤ what ∧ what < 3) ∧ z = vlA (rvl p.toNat r.toNat) what ∧ FrM σ s)) := by
  obtain ⟨hg1, hg2, hrf⟩ := id hg
  obtain ⟨d, rfl⟩ : ∃ d, D = d + 1 := ⟨D - 1, by omega⟩
  refine am_enter rfl rfl (Nat.le_of_ble_eq_true rfl) ?_
  refine g_aload_n dX7_value_0 rfl ?_
  refine g_iload_n dX7_value_1 rfl ?_
  refine g_callvI dX7_value_2 tm_7_151 rfl ⟨rfl, rfl⟩ rfl (Nat.le_of_ble_eq_true rfl) (cm_isPupil (by omega) σ _) (fun z2 s2 h2 => ?_)
  obtain ⟨h2, e2⟩ := h2
  obtain rfl := e2.symm
  refine g_if_eq (tgt := 16) dX7_value_5 (by decide) (fun c5 => ?_) (fun c5 => ?_)
  · refine g_aload_n dX7_value_16 rfl ?_
    refine g_iconst dX7_value_17 ⟨by decide, by decide⟩ ?_
    refine g_callvI dX7_value_18 tm_7_391 rfl ⟨rfl, rfl⟩ rfl (Nat.le_of_ble_eq_true rfl) (cm_refuseFar (by omega) σ hf _ ⟨by omega, by omega⟩ hg.2.2) (fun z18 s18 h18 => ?_)
    obtain ⟨rfl, rfl⟩ := h18
    refine g_ireturn dX7_value_21 (Or.inl rfl) ⟨_, rfl, ?_⟩
    first
      | exact Or.inl ⟨by omega, rfl, rfl⟩
      | exact Or.inr (Or.inl ⟨by omega, by omega, rfl, rfl⟩)
      | (refine Or.inr (Or.inr ⟨by omega, by omega, ?_, ff⟩)
         rw [Int.toNat_natCast, Int.toNat_natCast]
         unfold vlA
         rw [← htg]
         first
           | (rw [if_pos (by omega)]; done)
           | (rw [if_neg (by omega), if_neg (by omega)]; done)
           | (rw [if_neg (by omega), if_pos (by omega), if_pos (by omega)]; exact (hud (by omega)).1)
           | (rw [if_neg (by omega), if_pos (by omega), if_neg (by omega)]; exact (hud (by omega)).2))
  · refine g_aload_n dX7_value_8 rfl ?_
    refine g_iload_n dX7_value_9 rfl ?_
    refine g_callvI dX7_value_10 tm_7_289 rfl ⟨rfl, rfl⟩ rfl (Nat.le_of_ble_eq_true rfl) (cm_isRule (by omega) σ hf (by have := hR.1.2.1; have := hR.1.2.2.1; omega) _) (fun z10 s10 h10 => ?_)
    obtain ⟨h10, e10⟩ := h10
    obtain rfl := e10.symm
    rw [hR.1.2.2.1, Int.toNat_natCast, hm] at h10
    refine g_if_ne (tgt := 22) dX7_value_13 (by decide) (fun c13 => ?_) (fun c13 => ?_)
    · refine g_iload_n dX7_value_22 rfl ?_
      refine g_iconst dX7_value_23 ⟨by decide, by decide⟩ ?_
      refine g_callsI dX7_value_24 tm_7_141 rfl ⟨Nat.le_of_ble_eq_true rfl, rfl, rfl⟩ (Nat.le_of_ble_eq_true rfl) (cm_isIn (by omega) σ _ _) (fun z24 s24 h24 => ?_)
      obtain ⟨h24, e24⟩ := h24
      obtain rfl := e24.symm
      refine g_if_ne (tgt := 37) dX7_value_27 (by decide) (fun c27 => ?_) (fun c27 => ?_)
      · obtain ⟨p, rfl⟩ : ∃ q : Nat, p = (q : Int) := ⟨p.toNat, by omega⟩
        obtain ⟨r, rfl⟩ : ∃ q : Nat, r = (q : Int) := ⟨r.toNat, by omega⟩
        have hp : p < 6 := by omega
        have hr : r < n := by omega
        refine g_aload_n dX7_value_37 rfl ?_
        refine g_iload_n dX7_value_38 rfl ?_
        refine g_callvV dX7_value_39 tm_7_246 rfl ⟨rfl, rfl⟩ rfl (Nat.le_of_ble_eq_true rfl) (cm_begins (by omega) _ hf _) (fun s39 h39 => ?_)
        obtain rfl := h39
        have hS := bg_rs hf hb hp
        have hM := bg_mem (σ := σ) hR.1.1 (rvl p) p
        have f0 := FrM_bg σ p
        have hR2 := f0.bk hR
        change am_Go _ _ _ _ _ _ _ _ _ (bg σ p) _
        have hf2 := hS.1
        have hf := hf2
        refine g_aload_n dX7_value_42 rfl ?_
        refine g_iload_n dX7_value_43 rfl ?_
        refine g_callvV dX7_value_44 tm_7_249 rfl ⟨rfl, rfl⟩ rfl (Nat.le_of_ble_eq_true rfl) (cm_rule (by omega) hR2 (hV p hp) hS hM hr) (fun s44 h44 => ?_)
        obtain ⟨f1, -, hS1, -, hv1⟩ := h44
        have ff := f0.tr f1
        have hf3 := hS1.1
        have hf := hf3
        have hok := (hV p hp).2.2 r
        have htg := vt_tg hv1
        have hud := vt_ud hv1
        refine g_iload_n dX7_value_47 rfl ?_
        refine g_iconst dX7_value_48 ⟨by decide, by decide⟩ ?_
        refine g_icmp_ne (tgt := 57) dX7_value_49 (by decide) (fun c49 => ?_) (fun c49 => ?_)
        · refine g_aload_n dX7_value_57 rfl ?_
          refine g_getI dX7_value_58 tf_7_252 rfl rfl ?_
          refine g_iconst dX7_value_61 ⟨by decide, by decide⟩ ?_
          refine g_icmp_eq (tgt := 67) dX7_value_62 (by decide) (fun c62 => ?_) (fun c62 => ?_)
          · refine g_iload_n dX7_value_67 rfl ?_
            refine g_if_ne (tgt := 78) dX7_value_68 (by decide) (fun c68 => ?_) (fun c68 => ?_)
            · refine g_aload_n dX7_value_78 rfl ?_
              refine g_getL dX7_value_79 tf_7_259 rfl rfl ?_
              have g1 := vt_rg hv1 hok (by omega)
              refine g_l2i dX7_value_82 ⟨by omega, by omega⟩ ?_
              refine g_ireturn dX7_value_83 (Or.inl rfl) ⟨_, rfl, ?_⟩
              first
                | exact Or.inl ⟨by omega, rfl, rfl⟩
                | exact Or.inr (Or.inl ⟨by omega, by omega, rfl, rfl⟩)
                | (refine Or.inr (Or.inr ⟨by omega, by omega, ?_, ff⟩)
                   rw [Int.toNat_natCast, Int.toNat_natCast]
                   unfold vlA
                   rw [← htg]
                   first
                     | (rw [if_pos (by omega)]; done)
                     | (rw [if_neg (by omega), if_neg (by omega)]; done)
                     | (rw [if_neg (by omega), if_pos (by omega), if_pos (by omega)]; exact (hud (by omega)).1)
                     | (rw [if_neg (by omega), if_pos (by omega), if_neg (by omega)]; exact (hud (by omega)).2))
            · refine g_aload_n dX7_value_71 rfl ?_
              refine g_getL dX7_value_72 tf_7_255 rfl rfl ?_
              refine g_goto (tgt := 82) dX7_value_75 (by decide) ?_
              have g1 := vt_rg hv1 hok (by omega)
              refine g_l2i dX7_value_82 ⟨by omega, by omega⟩ ?_
              refine g_ireturn dX7_value_83 (Or.inl rfl) ⟨_, rfl, ?_⟩
              first
                | exact Or.inl ⟨by omega, rfl, rfl⟩
                | exact Or.inr (Or.inl ⟨by omega, by omega, rfl, rfl⟩)
                | (refine Or.inr (Or.inr ⟨by omega, by omega, ?_, ff⟩)
                   rw [Int.toNat_natCast, Int.toNat_natCast]
                   unfold vlA
                   rw [← htg]
                   first
                     | (rw [if_pos (by omega)]; done)
                     | (rw [if_neg (by omega), if_neg (by omega)]; done)
                     | (rw [if_neg (by omega), if_pos (by omega), if_pos (by omega)]; exact (hud (by omega)).1)
                     | (rw [if_neg (by omega), if_pos (by omega), if_neg (by omega)]; exact (hud (by omega)).2))
          · refine g_iload_n dX7_value_65 rfl ?_
            refine g_ireturn dX7_value_66 (Or.inl rfl) ⟨_, rfl, ?_⟩
            first
              | exact Or.inl ⟨by omega, rfl, rfl⟩
              | exact Or.inr (Or.inl ⟨by omega, by omega, rfl, rfl⟩)
              | (refine Or.inr (Or.inr ⟨by omega, by omega, ?_, ff⟩)
                 rw [Int.toNat_natCast, Int.toNat_natCast]
                 unfold vlA
                 rw [← htg]
                 first
                   | (rw [if_pos (by omega)]; done)
                   | (rw [if_neg (by omega), if_neg (by omega)]; done)
                   | (rw [if_neg (by omega), if_pos (by omega), if_pos (by omega)]; exact (hud (by omega)).1)
                   | (rw [if_neg (by omega), if_pos (by omega), if_neg (by omega)]; exact (hud (by omega)).2))
        · refine g_aload_n dX7_value_52 rfl ?_
          refine g_getI dX7_value_53 tf_7_252 rfl rfl ?_
          refine g_ireturn dX7_value_56 (Or.inl rfl) ⟨_, rfl, ?_⟩
          first
            | exact Or.inl ⟨by omega, rfl, rfl⟩
            | exact Or.inr (Or.inl ⟨by omega, by omega, rfl, rfl⟩)
            | (refine Or.inr (Or.inr ⟨by omega, by omega, ?_, ff⟩)
               rw [Int.toNat_natCast, Int.toNat_natCast]
               unfold vlA
               rw [← htg]
               first
                 | (rw [if_pos (by omega)]; done)
                 | (rw [if_neg (by omega), if_neg (by omega)]; done)
                 | (rw [if_neg (by omega), if_pos (by omega), if_pos (by omega)]; exact (hud (by omega)).1)
                 | (rw [if_neg (by omega), if_pos (by omega), if_neg (by omega)]; exact (hud (by omega)).2))
      · refine g_aload_n dX7_value_30 rfl ?_
        refine g_bipush dX7_value_31 (by decide) ?_
        refine g_callvI dX7_value_33 tm_7_391 rfl ⟨rfl, rfl⟩ rfl (Nat.le_of_ble_eq_true rfl) (cm_refuseFar (by omega) σ hf _ ⟨by omega, by omega⟩ hg.2.2) (fun z33 s33 h33 => ?_)
        obtain ⟨rfl, rfl⟩ := h33
        refine g_ireturn dX7_value_36 (Or.inl rfl) ⟨_, rfl, ?_⟩
        first
          | exact Or.inl ⟨by omega, rfl, rfl⟩
          | exact Or.inr (Or.inl ⟨by omega, by omega, rfl, rfl⟩)
          | (refine Or.inr (Or.inr ⟨by omega, by omega, ?_, ff⟩)
             rw [Int.toNat_natCast, Int.toNat_natCast]
             unfold vlA
             rw [← htg]
             first
               | (rw [if_pos (by omega)]; done)
               | (rw [if_neg (by omega), if_neg (by omega)]; done)
               | (rw [if_neg (by omega), if_pos (by omega), if_pos (by omega)]; exact (hud (by omega)).1)
               | (rw [if_neg (by omega), if_pos (by omega), if_neg (by omega)]; exact (hud (by omega)).2))
    · refine g_aload_n dX7_value_16 rfl ?_
      refine g_iconst dX7_value_17 ⟨by decide, by decide⟩ ?_
      refine g_callvI dX7_value_18 tm_7_391 rfl ⟨rfl, rfl⟩ rfl (Nat.le_of_ble_eq_true rfl) (cm_refuseFar (by omega) σ hf _ ⟨by omega, by omega⟩ hg.2.2) (fun z18 s18 h18 => ?_)
      obtain ⟨rfl, rfl⟩ := h18
      refine g_ireturn dX7_value_21 (Or.inl rfl) ⟨_, rfl, ?_⟩
      first
        | exact Or.inl ⟨by omega, rfl, rfl⟩
        | exact Or.inr (Or.inl ⟨by omega, by omega, rfl, rfl⟩)
        | (refine Or.inr (Or.inr ⟨by omega, by omega, ?_, ff⟩)
           rw [Int.toNat_natCast, Int.toNat_natCast]
           unfold vlA
           rw [← htg]
           first
             | (rw [if_pos (by omega)]; done)
             | (rw [if_neg (by omega), if_neg (by omega)]; done)
             | (rw [if_neg (by omega), if_pos (by omega), if_pos (by omega)]; exact (hud (by omega)).1)
             | (rw [if_neg (by omega), if_pos (by omega), if_neg (by omega)]; exact (hud (by omega)).2))

