/-! THE REFERENCE: a book's cells, and what they mean -/
theorem NdC_le {P : Nat → Nat → Den → Prop} {bes : Nat → Int} : ∀ {cs : List (Nat × Den)} {y : Int} {lo hi : Nat}, NdC P bes y lo hi cs → lo ≤ hi
  | [], _, _, _, h => Nat.le_of_eq h.2
  | _ :: _, _, _, _, h => by
    obtain ⟨_, _, mid, h3, _, h5⟩ := h
    have := NdC_le h5
    omega
theorem Nd_congr {t t' : TD} {ok : Nat → Prop} : ∀ {f x hi : Nat} {e : Den}, (∀ j, x ≤ j → j < hi → t'.1 j = t.1 j ∧ t'.2.1 j = t.2.1 j ∧ t'.2.2.1 j = t.2.2.1 j ∧ t'.2.2.2.1 j = t.2.2.2.1 j ∧ t'.2.2.2.2 j = t.2.2.2.2 j) → Nd t ok f x hi e → Nd t' ok f x hi e
  | 0, _, _, _, _, h => h.elim
  | f + 1, x, hi, e, ha, h => by
    obtain ⟨h1, h2, h3⟩ := h
    obtain ⟨a1, a2, a3, -⟩ := ha x (Nat.le_refl _) h2
    refine ⟨h1, h2, ?_⟩
    rw [a1, a2, a3]
    rcases h3 with h3 | h3 | ⟨h3, h4, cs, h5, h6, h7, h8, h9, h10⟩
    · exact Or.inl h3
    · exact Or.inr (Or.inl h3)
    · refine Or.inr (Or.inr ⟨h3, h4, cs, h5, h6, h7, ?_, ?_, ?_⟩)
      · intro g q hq
        obtain ⟨mid, _, g2, g3, g4⟩ := NdC_mem h9 q hq
        obtain ⟨b1, b2, -, -, b5⟩ := ha q.1 (by omega) (by omega)
        rw [b1, b2, b5]
        exact h8 g q hq
      · have key : ∀ (cs : List (Nat × Den)) (y : Int) (lo : Nat), x + 1 ≤ lo → NdC (Nd t ok f) t.2.2.2.1 y lo hi cs → NdC (Nd t' ok f) t'.2.2.2.1 y lo hi cs := by
          intro cs
          induction cs with
          | nil => intro y lo _ h; exact h
          | cons q l ih =>
            intro y lo hlo h
            obtain ⟨g1, g2, mid, g3, g4, g5⟩ := h
            have hle := NdC_le g5
            refine ⟨g1, g2, mid, g3, Nd_congr (fun j j1 j2 => ha j (by omega) (by omega)) g4, ?_⟩
            rw [(ha lo (by omega) (by omega)).2.2.2.1]
            exact ih _ _ (by omega) g5
        exact key cs _ _ (Nat.le_refl _) h9
      · rw [h10]
        funext env
        congr 1
        refine List.map_congr_left (fun q hq => ?_)
        obtain ⟨mid, _, g2, g3, g4⟩ := NdC_mem h9 q hq
        obtain ⟨b1, b2, -, -, b5⟩ := ha q.1 (by omega) (by omega)
        rw [b1, b5]
/-- the cells of a book -/
def bkc (N o k : Nat) : Prop := (17 ≤ o ∧ o ≤ 22 ∧ 1600 * N ≤ k ∧ k < 1600 * N + 1600) ∨ ((o = 23 ∨ o = 27) ∧ k = N) ∨ ((o = 24 ∨ o = 25) ∧ 12 * N ≤ k ∧ k < 12 * N + 12) ∨ (o = 26 ∧ 13 * N ≤ k ∧ k < 13 * N + 13)
def MB (N n : Nat) (nm : Nat → Int) (ev : Nat → Den) (ed : Nat → Nat → Prop) (ls : Prop) (σ : am_HS) : Prop := N < 2 ∧ n ≤ 12 ∧ hI σ 23 N = (n : Int) ∧ (∀ r, r < n → hI σ 24 (12 * N + r) = nm r) ∧ (hI σ 27 N = 1 ↔ ls) ∧ ∃ (cf ρ : Nat → Nat), (∀ k, k < n → cf k < cf (k + 1)) ∧ (∀ k, k ≤ n → cf k ≤ 1600) ∧ (∀ k, k ≤ n → hI σ 26 (13 * N + k) = (cf k : Int)) ∧ (∀ r, r < n → hI σ 25 (12 * N + r) = ((1600 * N + cf r : Nat) : Int) ∧ Nd (tdM σ) (fun r' => r' < n ∧ ρ r' < ρ r) 28 (1600 * N + cf r) (1600 * N + cf (r + 1)) (ev r)) ∧ (∀ r, r < n → ρ r < 12) ∧ (∀ r k, r < n → cf r ≤ k → k < cf (r + 1) → hI σ 17 (1600 * N + k) = 1 → (0 ≤ hI σ 18 (1600 * N + k) ∧ hI σ 18 (1600 * N + k) < 12) ∨ (100 ≤ hI σ 18 (1600 * N + k) ∧ hI σ 18 (1600 * N + k) < 110)) ∧ (∀ r b, r < n → (EdM σ N cf (cf (r + 1)) r b ↔ ed r b))
theorem MB.of {N n : Nat} {nm : Nat → Int} {ev : Nat → Den} {ed : Nat → Nat → Prop} {ls : Prop} {σ s : am_HS} (h : MB N n nm ev ed ls σ) (he : ∀ o k, bkc N o k → hI s o k = hI σ o k) : MB N n nm ev ed ls s := by
  obtain ⟨h1, h2, h3, h4, h5, cf, ρ, h6, h7, h8, h9, h10, h11, h12⟩ := h
  have hcm := cf_mono h6
  have hc : ∀ r k, r < n → k < cf (r + 1) → k < 1600 := fun r k hr hk => by have := h7 (r + 1) (by omega); omega
  refine ⟨h1, h2, (he 23 N (by unfold bkc; omega)).trans h3, fun r hr => (he 24 _ (by unfold bkc; omega)).trans (h4 r hr), by rw [he 27 N (by unfold bkc; omega)]; exact h5, cf, ρ, h6, h7, fun k hk => (he 26 _ (by unfold bkc; omega)).trans (h8 k hk), fun r hr => ⟨(he 25 _ (by unfold bkc; omega)).trans (h9 r hr).1, ?_⟩, h10, ?_, ?_⟩
  · have := h7 (r + 1) (by omega)
    exact Nd_congr (t := tdM σ) (fun j j1 j2 => ⟨he 17 j (by unfold bkc; omega), he 18 j (by unfold bkc; omega), he 19 j (by unfold bkc; omega), he 20 j (by unfold bkc; omega), he 22 j (by unfold bkc; omega)⟩) (h9 r hr).2
  · intro r k hr k1 k2 k3
    have := hc r k hr k2
    rw [he 17 _ (by unfold bkc; omega)] at k3
    rw [he 18 _ (by unfold bkc; omega)]
    exact h11 r k hr k1 k2 k3
  · intro r b hr
    rw [← h12 r b hr]
    unfold EdM
    constructor
    · rintro ⟨k, k1, k2, k3, k4⟩
      have := hc r k hr k2
      rw [he 17 _ (by unfold bkc; omega)] at k3
      rw [he 18 _ (by unfold bkc; omega)] at k4
      exact ⟨k, k1, k2, k3, k4⟩
    · rintro ⟨k, k1, k2, k3, k4⟩
      have := hc r k hr k2
      exact ⟨k, k1, k2, by rw [he 17 _ (by unfold bkc; omega)]; exact k3, by rw [he 18 _ (by unfold bkc; omega)]; exact k4⟩
theorem bkc_keep {N o k : Nat} (h : bkc N o k) : keepM o k := by
  unfold bkc at h
  exact Or.inl (by omega)
theorem FrM.mb {N n : Nat} {nm : Nat → Int} {ev : Nat → Den} {ed : Nat → Nat → Prop} {ls : Prop} {σ s : am_HS} (f : FrM σ s) (h : MB N n nm ev ed ls σ) : MB N n nm ev ed ls s := h.of (fun o k hk => f.2 o k (bkc_keep hk))
theorem MB.bk {N n : Nat} {nm : Nat → Int} {ev : Nat → Den} {ed : Nat → Nat → Prop} {ls : Prop} {σ : am_HS} (h : MB N n nm ev ed ls σ) (hnow : hI σ 0 42 = (N : Int)) : ∃ lo hi ρ, BK N n lo hi ρ ev (tdM σ) σ := by
  obtain ⟨h1, h2, h3, h4, h5, cf, ρ, h6, h7, h8, h9, h10, h11, h12⟩ := h
  have mono : ∀ b a, a ≤ b → b ≤ n → cf a ≤ cf b := by
    intro b
    induction b with
    | zero => intro a h1 _; have : a = 0 := by omega
              subst this; exact Nat.le_refl _
    | succ b ih =>
      intro a h1 h2
      rcases Nat.lt_or_ge b a with q | q
      · have : a = b + 1 := by omega
        subst this; exact Nat.le_refl _
      · have := ih a q (by omega)
        have := h6 b (by omega)
        omega
  refine ⟨fun r => 1600 * N + cf r, fun r => 1600 * N + cf (r + 1), ρ, ⟨h2, h1, hnow, rfl, h9, fun r r' hr hr' hne => ?_⟩, h10⟩
  rcases Nat.lt_or_ge r r' with q | q
  · have := mono r' (r + 1) (by omega) (by omega)
    exact Or.inl (by dsimp only; omega)
  · have := mono r (r' + 1) (by omega) (by omega)
    exact Or.inr (by dsimp only; omega)
abbrev mkP (σ : am_HS) (p : Nat) : Nat → Vl := fun w => mtM σ p w (-1)
theorem FrM.mkp {σ s : am_HS} (f : FrM σ s) (p : Nat) : mkP s p = mkP σ p := funext fun w => f.mt p w (-1)
theorem mkP_ok (σ : am_HS) (p : Nat) : ∀ w, vok (mkP σ p w) := fun w => mtM_ok σ p w (by decide)
/-- what reckoning leaves of the old values -/
def KpO (s u : am_HS) : Prop := (∀ k, hI u 29 k = hI s 29 k) ∧ (∀ k, hL u 30 k = hL s 30 k) ∧ (∀ k, hL u 31 k = hL s 31 k) ∧ hI u 0 43 = hI s 0 43
theorem KpO.tr {s u v : am_HS} (h : KpO s u) (h2 : KpO u v) : KpO s v := ⟨fun k => (h2.1 k).trans (h.1 k), fun k => (h2.2.1 k).trans (h.2.1 k), fun k => (h2.2.2.1 k).trans (h.2.2.1 k), h2.2.2.2.trans h.2.2.2⟩
theorem KpO_bg (s : am_HS) (p : Int) : KpO s (bg s p) := by
  refine ⟨fun k => ?_, fun k => rfl, fun k => rfl, ?_⟩
  · unfold bg
    rw [hI_fill_out (by omega), hI_fill_out (by omega), hI_uI_n (by omega)]
  · unfold bg
    rw [hI_fill_out (by omega), hI_fill_out (by omega), hI_uI_n (by omega)]
/-- a rule's value, from 'begins' on -/
theorem cm_valP {D : Nat} (hD : 768 ≤ D) {N n : Nat} {nm : Nat → Int} {ev : Nat → Den} {ed : Nat → Nat → Prop} {ls : Prop} {s : am_HS} (hf : s.2.2 = mH) (hb : rgM s) (hB : MB N n nm ev ed ls s) (hnow : hI s 0 42 = (N : Int)) (hS : BkS n ev ed) {p r : Nat} (hp : p < 6) (hr : r < n) : am_Do lm D mX7_values (bg s (p : Int)) [vR (some 0), vI (r : Int)] (qV fun u => FrM s u ∧ KpO s u ∧ vt (rvC n ev (mkP s p) r) (hI u 0 48) (hL u 0 49) (hL u 0 50)) := by
  have f0 := FrM_bg s (p : Int)
  obtain ⟨lo, hi, ρ, hR⟩ := (f0.mb hB).bk ((f0.2 0 42 (Or.inr ⟨rfl, by omega⟩)).trans hnow)
  have hV := rvC_RV hS (mkP_ok s p)
  have hM := bg_mem (σ := s) hS.1 (rvC n ev (mkP s p)) (p : Int)
  refine am_Do.mono (cm_valuesK N n lo hi ρ ev _ p _ _ hV 12 r hr (hR.2 r hr) D _ (by omega) hR.1 (bg_rs hf hb hp) hM) (fun _ u h => ⟨h.1, f0.tr h.2.1.fr, ?_, h.2.2.2.2⟩)
  have e := h.2.1
  refine (KpO_bg s p).tr ⟨fun k => e.I (by omega) (by omega) (by omega) (by omega), fun k => ?_, fun k => ?_, e.I (by omega) (by omega) (by omega) (by omega)⟩
  · rcases e.2.2 30 k with a | a | a | a
    · exact a
    all_goals omega
  · rcases e.2.2 31 k with a | a | a | a
    · exact a
    all_goals omega
def OT (rv : Nat → Nat → Vl) (n p r : Nat) (s : am_HS) : Prop := ∀ q j, (q < p ∧ j < n ∨ q = p ∧ j < r) → vt (rv q j) (hI s 29 (12 * q + j)) (hL s 30 (12 * q + j)) (hL s 31 (12 * q + j))
theorem OT.of {rv : Nat → Nat → Vl} {n p r : Nat} {s u : am_HS} (h : OT rv n p r s) (k : KpO s u) : OT rv n p r u := fun q j hq => by rw [k.1, k.2.1, k.2.2.1]; exact h q j hq
theorem keeps_in {d : Nat} (hD : 768 ≤ d) {N n : Nat} {nm : Nat → Int} {ev : Nat → Den} {ed : Nat → Nat → Prop} {ls : Prop} {σ : am_HS} (hf0 : σ.2.2 = mH) (hb0 : rgM σ) (hB : MB N n nm ev ed ls σ) (hnow : hI σ 0 42 = (N : Int)) (hS : BkS n ev ed) (P : Nat) (hP : hI σ 0 1 = (P : Int)) (hP6 : P ≤ 6) (p : Nat) (hp : p < P) (hnext : ∀ (s : am_HS) (o2 o3 : Option am_V), FrM σ s → hI s 0 43 = hI σ 0 43 → OT (fun q => rvC n ev (mkP σ q)) n (p + 1) 0 s → am_Go lm d 7 4 0 cX7_keepsOld 78 [some (vR (some 0)), some (vI (p : Int)), o2, o3] [] s (qV fun u => FrM σ u ∧ OT (fun q => rvC n ev (mkP σ q)) n P 0 u ∧ hI u 0 43 = hI σ 0 43)) : ∀ (m r : Nat) (o3 : Option am_V) (s : am_HS), r + m = n → FrM σ s → hI s 0 43 = hI σ 0 43 → OT (fun q => rvC n ev (mkP σ q)) n p r s → am_Go lm d 7 4 0 cX7_keepsOld 12 [some (vR (some 0)), some (vI (p : Int)), some (vI (r : Int)), o3] [] s (qV fun u => FrM σ u ∧ OT (fun q => rvC n ev (mkP σ q)) n P 0 u ∧ hI u 0 43 = hI σ 0 43) := by
  intro m
  induction m with
  | zero =>
    intro r o3 s hr fr h43 hO
    have er : r = n := by omega
    subst er
    have hf : s.2.2 = mH := fr.1.trans hf0
    have hb := fr.rg hb0
    have g1 : hI s 0 1 = (P : Int) := (fr.k (keepF (by decide))).trans hP
    have g42 : hI s 0 42 = (N : Int) := (fr.k (keepF (by decide))).trans hnow
    have g23 : hI s 23 N = (r : Int) := (fr.k (keepA (by decide) (by decide))).trans hB.2.2.1
    have hN2 : N < 2 := hB.1
    have hn12 : r ≤ 12 := hB.2.1
    refine g_iload_n dX7_keepsOld_12 rfl ?_
    refine g_aload_n dX7_keepsOld_13 rfl ?_
    refine g_getA dX7_keepsOld_14 tf_7_77 rfl rfl (mrf hf rfl) ?_
    refine g_aload_n dX7_keepsOld_17 rfl ?_
    refine g_getI dX7_keepsOld_18 tf_7_148 rfl rfl ?_
    rw [g42]
    refine g_ialdN (N) dX7_keepsOld_21 rfl (by omega) (by omega) ?_
    refine g_icmp_ge (tgt := 78) dX7_keepsOld_22 (by decide) (fun c22 => ?_) (fun c22 => ?_)
    · refine hnext s _ _ fr h43 (fun q j hq => hO q j ?_)
      omega
    · exfalso; omega
  | succ m ih =>
    intro r o3 s hr fr h43 hO
    have hf : s.2.2 = mH := fr.1.trans hf0
    have hb := fr.rg hb0
    have g1 : hI s 0 1 = (P : Int) := (fr.k (keepF (by decide))).trans hP
    have g42 : hI s 0 42 = (N : Int) := (fr.k (keepF (by decide))).trans hnow
    have g23 : hI s 23 N = (n : Int) := (fr.k (keepA (by decide) (by decide))).trans hB.2.2.1
    have hN2 : N < 2 := hB.1
    have hn12 : n ≤ 12 := hB.2.1
    have hcl : ∀ (u : am_HS), FrM s u → KpO s u → vt (rvC n ev (mkP s p) r) (hI u 0 48) (hL u 0 49) (hL u 0 50) → FrM σ (uL (uL (uI u 29 (12 * p + r) (hI u 0 48)) 30 (12 * p + r) (hL u 0 49)) 31 (12 * p + r) (hL u 0 50)) ∧ hI (uL (uL (uI u 29 (12 * p + r) (hI u 0 48)) 30 (12 * p + r) (hL u 0 49)) 31 (12 * p + r) (hL u 0 50)) 0 43 = hI σ 0 43 ∧ OT (fun q => rvC n ev (mkP σ q)) n p (r + 1) (uL (uL (uI u 29 (12 * p + r) (hI u 0 48)) 30 (12 * p + r) (hL u 0 49)) 31 (12 * p + r) (hL u 0 50)) := by
      intro u f1 k1 v1
      refine ⟨((((fr.tr f1).tr (FrM_uI (by unfold keepM; omega))).tr (FrM_uL _ _ _ _)).tr (FrM_uL _ _ _ _)), ?_, fun q j hq => ?_⟩
      · rw [hI_uL, hI_uL, hI_uI_n (by omega), k1.2.2.2]; exact h43
      simp only [hI_uL, hL_uI, hL_cp]
      by_cases e : q = p ∧ j = r
      · obtain ⟨rfl, rfl⟩ := e
        rw [hI_uI_e (hI_r _ _ _), if_neg (by simp), if_pos (by simp), if_pos (by simp)]
        rw [fr.mkp] at v1
        exact v1
      · have hj : j < 12 := by omega
        have e2 : ¬ (12 * q + j = 12 * p + r) := by omega
        rw [hI_uI_n (by omega), if_neg (by omega), if_neg (by omega), if_neg (by omega), k1.1, k1.2.1, k1.2.2.1]
        exact hO q j (by omega)
    refine g_iload_n dX7_keepsOld_12 rfl ?_
    refine g_aload_n dX7_keepsOld_13 rfl ?_
    refine g_getA dX7_keepsOld_14 tf_7_77 rfl rfl (mrf hf rfl) ?_
    refine g_aload_n dX7_keepsOld_17 rfl ?_
    refine g_getI dX7_keepsOld_18 tf_7_148 rfl rfl ?_
    rw [g42]
    refine g_ialdN (N) dX7_keepsOld_21 rfl (by omega) (by omega) ?_
    refine g_icmp_ge (tgt := 78) dX7_keepsOld_22 (by decide) (fun c22 => ?_) (fun c22 => ?_)
    · exfalso; omega
    · refine g_aload_n dX7_keepsOld_25 rfl ?_
      refine g_iload_n dX7_keepsOld_26 rfl ?_
      refine g_callvV dX7_keepsOld_27 tm_7_246 rfl ⟨rfl, rfl⟩ rfl (Nat.le_of_ble_eq_true rfl) (cm_begins (by omega) s hf (p : Int)) (fun s27 h27 => ?_)
      obtain rfl := h27
      change am_Go _ _ _ _ _ _ _ _ _ (bg s (p : Int)) _
      refine g_aload_n dX7_keepsOld_30 rfl ?_
      refine g_iload_n dX7_keepsOld_31 rfl ?_
      refine g_callvV dX7_keepsOld_32 tm_7_249 rfl ⟨rfl, rfl⟩ rfl (Nat.le_of_ble_eq_true rfl) (cm_valP (by omega) hf hb (fr.mb hB) g42 hS (p := p) (r := r) (by omega) (by omega)) (fun s32 h32 => ?_)
      obtain ⟨f1, k1, v1⟩ := h32
      have hc := hcl _ f1 k1 v1
      have hf2 : s32.2.2 = mH := f1.1.trans hf
      have hf := hf2
      refine g_bipush dX7_keepsOld_35 (by decide) ?_
      refine g_iload_n dX7_keepsOld_37 rfl ?_
      refine g_imul dX7_keepsOld_38 rfl ⟨by omega, by omega⟩ ?_
      refine g_iload_n dX7_keepsOld_39 rfl ?_
      refine g_iadd dX7_keepsOld_40 rfl ⟨by omega, by omega⟩ ?_
      refine g_istore_n dX7_keepsOld_41 (by decide) rfl ?_
      refine g_aload_n dX7_keepsOld_42 rfl ?_
      refine g_getA dX7_keepsOld_43 tf_7_95 rfl rfl (mrf hf rfl) ?_
      refine g_iload_n dX7_keepsOld_46 rfl ?_
      refine g_aload_n dX7_keepsOld_47 rfl ?_
      refine g_getI dX7_keepsOld_48 tf_7_252 rfl rfl ?_
      refine g_iastN (12 * p + r) dX7_keepsOld_51 rfl (by omega) (by omega) ?_
      refine g_aload_n dX7_keepsOld_52 rfl ?_
      refine g_getA dX7_keepsOld_53 tf_7_98 rfl rfl (mrf hf rfl) ?_
      refine g_iload_n dX7_keepsOld_56 rfl ?_
      refine g_aload_n dX7_keepsOld_57 rfl ?_
      refine g_getL dX7_keepsOld_58 tf_7_255 rfl rfl ?_
      refine g_lastN (12 * p + r) dX7_keepsOld_61 rfl (by omega) (by omega) ?_
      refine g_aload_n dX7_keepsOld_62 rfl ?_
      refine g_getA dX7_keepsOld_63 tf_7_102 rfl rfl (mrf hf rfl) ?_
      refine g_iload_n dX7_keepsOld_66 rfl ?_
      refine g_aload_n dX7_keepsOld_67 rfl ?_
      refine g_getL dX7_keepsOld_68 tf_7_259 rfl rfl ?_
      refine g_lastN (12 * p + r) dX7_keepsOld_71 rfl (by omega) (by omega) ?_
      refine g_iinc dX7_keepsOld_72 (by decide) rfl ⟨by omega, by omega⟩ (show (r : Int) + 1 = ((r + 1 : Nat) : Int) from by omega) rfl ?_
      refine g_goto (tgt := 12) dX7_keepsOld_75 (by decide) ?_
      exact ih (r + 1) _ _ (by omega) hc.1 hc.2.1 hc.2.2
theorem cm_keepsOld {D : Nat} (hD : 769 ≤ D) {N n : Nat} {nm : Nat → Int} {ev : Nat → Den} {ed : Nat → Nat → Prop} {ls : Prop} {σ : am_HS} (hf0 : σ.2.2 = mH) (hb0 : rgM σ) (hB : MB N n nm ev ed ls σ) (hnow : hI σ 0 42 = (N : Int)) (hS : BkS n ev ed) (P : Nat) (hP : hI σ 0 1 = (P : Int)) (hP6 : P ≤ 6) : am_Do lm D mX7_keepsOld σ [vR (some 0)] (qV fun u => FrM σ u ∧ OT (fun q => rvC n ev (mkP σ q)) n P 0 u ∧ hI u 0 43 = hI σ 0 43) := by
  obtain ⟨d, rfl⟩ : ∃ d, D = d + 1 := ⟨D - 1, by omega⟩
  refine am_enter rfl rfl (Nat.le_of_ble_eq_true rfl) ?_
  have loop : ∀ (m p : Nat) (o2 o3 : Option am_V) (s : am_HS), p + m = P → FrM σ s → hI s 0 43 = hI σ 0 43 → OT (fun q => rvC n ev (mkP σ q)) n p 0 s → am_Go lm d 7 4 0 cX7_keepsOld 2 [some (vR (some 0)), some (vI (p : Int)), o2, o3] [] s (qV fun u => FrM σ u ∧ OT (fun q => rvC n ev (mkP σ q)) n P 0 u ∧ hI u 0 43 = hI σ 0 43) := by
    intro m
    induction m with
    | zero =>
      intro p o2 o3 s hp fr h43 hO
      have ep : p = P := by omega
      subst ep
      have hf : s.2.2 = mH := fr.1.trans hf0
      have hb := fr.rg hb0
      have g1 : hI s 0 1 = (p : Int) := (fr.k (keepF (by decide))).trans hP
      have g42 : hI s 0 42 = (N : Int) := (fr.k (keepF (by decide))).trans hnow
      have g23 : hI s 23 N = (n : Int) := (fr.k (keepA (by decide) (by decide))).trans hB.2.2.1
      have hN2 : N < 2 := hB.1
      have hn12 : n ≤ 12 := hB.2.1
      refine g_iload_n dX7_keepsOld_2 rfl ?_
      refine g_aload_n dX7_keepsOld_3 rfl ?_
      refine g_getI dX7_keepsOld_4 tf_7_137 rfl rfl ?_
      refine g_icmp_ge (tgt := 84) dX7_keepsOld_7 (by decide) (fun c7 => ?_) (fun c7 => ?_)
      · refine g_return dX7_keepsOld_84 rfl ⟨rfl, ?_⟩
        exact ⟨fr, hO, h43⟩
      · exfalso; omega
    | succ m ih =>
      intro p o2 o3 s hp fr h43 hO
      have hf : s.2.2 = mH := fr.1.trans hf0
      have hb := fr.rg hb0
      have g1 : hI s 0 1 = (P : Int) := (fr.k (keepF (by decide))).trans hP
      have g42 : hI s 0 42 = (N : Int) := (fr.k (keepF (by decide))).trans hnow
      have g23 : hI s 23 N = (n : Int) := (fr.k (keepA (by decide) (by decide))).trans hB.2.2.1
      have hN2 : N < 2 := hB.1
      have hn12 : n ≤ 12 := hB.2.1
      refine g_iload_n dX7_keepsOld_2 rfl ?_
      refine g_aload_n dX7_keepsOld_3 rfl ?_
      refine g_getI dX7_keepsOld_4 tf_7_137 rfl rfl ?_
      refine g_icmp_ge (tgt := 84) dX7_keepsOld_7 (by decide) (fun c7 => ?_) (fun c7 => ?_)
      · exfalso; omega
      · refine g_iconst dX7_keepsOld_10 ⟨by decide, by decide⟩ ?_
        refine g_istore_n dX7_keepsOld_11 (by decide) rfl ?_
        refine keeps_in (by omega) hf0 hb0 hB hnow hS P hP hP6 p (by omega) (fun s o2 o3 fr h43 hO => ?_) n 0 _ s (by omega) fr h43 hO
        refine g_iinc dX7_keepsOld_78 (by decide) rfl ⟨by omega, by omega⟩ (show (p : Int) + 1 = ((p + 1 : Nat) : Int) from by omega) rfl ?_
        refine g_goto (tgt := 2) dX7_keepsOld_81 (by decide) ?_
        exact ih (p + 1) _ _ s (by omega) fr h43 hO
  refine g_iconst dX7_keepsOld_0 ⟨by decide, by decide⟩ ?_
  refine g_istore_n dX7_keepsOld_1 (by decide) rfl ?_
  exact loop P 0 none none σ (by omega) (FrM.rf σ) rfl (fun q j hq => by omega)
