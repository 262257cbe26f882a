/-! THE CLASS: marking, groups, text -/
theorem wtC_1 {σ : am_HS} {k : Nat} (h : 0 ≤ hI σ (47 + 4 * k) 2) : wtC σ k 1 ↔ 0 < hI σ (47 + 4 * k) 2 ∧ hI σ (47 + 4 * k + 2) 0 < 0 := by
  unfold wtC ltC ltS
  by_cases q : hI σ (47 + 4 * k) 2 = 0
  · rw [if_pos q]
    omega
  · rw [if_neg q, if_neg (by decide)]
    constructor
    · rintro ⟨_, _, a⟩
      exact ⟨by omega, a⟩
    · rintro ⟨_, a⟩
      exact ⟨by omega, by omega, a⟩
def cgC (σ : am_HS) (p w : Nat) : Nat → Bool := fun q => decide (0 < hI σ (47 + 4 * (10 * q + w)) 2 ∧ hI σ (47 + 4 * (10 * q + w) + 2) 0 < 0 ∧ hI σ (47 + 4 * (10 * q + w)) 3 = hI σ (47 + 4 * (10 * p + w)) 3 ∧ hI σ (47 + 4 * (10 * q + w) + 1) 0 = hI σ (47 + 4 * (10 * p + w) + 1) 0)
def mgC (σ : am_HS) (w : Nat) (v : Int) (c : Nat → Bool) : Nat → am_HS
  | 0 => σ
  | q + 1 => if c q = true then uI (mgC σ w v c q) (47 + 4 * (10 * q + w) + 2) 0 v else mgC σ w v c q
theorem mgC_s (σ : am_HS) (w : Nat) (v : Int) (c : Nat → Bool) (q : Nat) : mgC σ w v c (q + 1) = if c q = true then uI (mgC σ w v c q) (47 + 4 * (10 * q + w) + 2) 0 v else mgC σ w v c q := rfl
theorem mgC_f {σ : am_HS} {w : Nat} {v : Int} {c : Nat → Bool} : ∀ q, (mgC σ w v c q).2.2 = σ.2.2
  | 0 => rfl
  | q + 1 => by
    rw [mgC_s]
    split
    · exact mgC_f q
    · exact mgC_f q
theorem mgC_o {σ : am_HS} {w : Nat} {v : Int} {c : Nat → Bool} {o k : Nat} : ∀ q, (∀ a, a < q → ¬ (o = 47 + 4 * (10 * a + w) + 2 ∧ k = 0)) → hI (mgC σ w v c q) o k = hI σ o k
  | 0, _ => rfl
  | q + 1, h => by
    rw [mgC_s]
    split
    · rw [hI_uI_n (h q (by omega)), mgC_o q (fun a ha => h a (by omega))]
    · exact mgC_o q (fun a ha => h a (by omega))
theorem cc6_markGrouped {D : Nat} (hD : 4 ≤ D) (σ : am_HS) {b : Nat} (hf : σ.2.2 = cH b) (hg : GC σ) (hb : rgC σ) (h5 : 0 ≤ hI σ 0 11 ∧ hI σ 0 11 ≤ 100000) (P : Nat) (hP : hI σ 0 7 = (P : Int)) (p w : Nat) (hp : p < P) (hw : (w : Int) < hI σ 0 8) (v : Int) : am_Do lc D mX6_markGrouped σ [vR (some 0), vR (some (47 + 4 * (10 * p + w))), vI (w : Int), vI v] (qI fun z s => z = (cntB (cgC σ p w) P : Int) ∧ s = uI (mgC σ w v (cgC σ p w) P) 0 11 (hI σ 0 11 + (cntB (cgC σ p w) P : Int))) := by
  obtain ⟨hg1, hg2, hrf⟩ := id hg
  have hP6 : P ≤ 6 := by omega
  have hw10 : w < 10 := by omega
  have hs : 10 * p + w < 60 := by omega
  have hf0 := hf
  obtain ⟨d, rfl⟩ : ∃ d, D = d + 1 := ⟨D - 1, by omega⟩
  refine am_enter rfl rfl (Nat.le_of_ble_eq_true rfl) ?_
  have loop : ∀ (m q : Nat) (o8 : Option am_V), q + m = P → am_Go lc d 6 9 1 cX6_markGrouped 19 [some (vR (some 0)), some (vR (some (47 + 4 * (10 * p + w)))), some (vI (w : Int)), some (vI v), some (vI (hI σ (47 + 4 * (10 * p + w) + 1) 0)), some (vI (hI σ (47 + 4 * (10 * p + w)) 3)), some (vI (cntB (cgC σ p w) q : Int)), some (vI (q : Int)), o8] [] (mgC σ w v (cgC σ p w) q) (qI fun z s => z = (cntB (cgC σ p w) P : Int) ∧ s = uI (mgC σ w v (cgC σ p w) P) 0 11 (hI σ 0 11 + (cntB (cgC σ p w) P : Int))) := by
    intro m
    induction m with
    | zero =>
      intro q o8 hq
      have hq2 : q = P := by omega
      subst hq2
      have hf := (mgC_f (w := w) (v := v) (c := cgC σ p w) (σ := σ) q).trans hf0
      have h1 : hI (mgC σ w v (cgC σ p w) q) 0 7 = (q : Int) := (mgC_o q (fun a ha => by omega)).trans hP
      have h11 : hI (mgC σ w v (cgC σ p w) q) 0 11 = hI σ 0 11 := mgC_o q (fun a ha => by omega)
      have hc := cntB_le (cgC σ p w) q
      refine g_iload dX6_markGrouped_19 rfl ?_
      refine g_aload_n dX6_markGrouped_21 rfl ?_
      refine g_getI dX6_markGrouped_22 tf_6_51 rfl rfl ?_
      refine g_icmp_ge (tgt := 89) dX6_markGrouped_25 (by decide) (fun c25 => ?_) (fun c25 => ?_)
      · refine g_aload_n dX6_markGrouped_89 rfl ?_
        refine g_dup dX6_markGrouped_90 rfl ?_
        refine g_getI dX6_markGrouped_91 tf_6_183 rfl rfl ?_
        rw [h11]
        refine g_iload dX6_markGrouped_94 rfl ?_
        refine g_iadd dX6_markGrouped_96 rfl ⟨by omega, by omega⟩ ?_
        refine g_putI dX6_markGrouped_97 tf_6_183 rfl rfl rfl ?_
        refine g_iload dX6_markGrouped_100 rfl ?_
        refine g_ireturn dX6_markGrouped_102 (Or.inl rfl) ⟨_, rfl, ?_⟩
        exact ⟨rfl, rfl⟩
      · exfalso; omega
    | succ m ih =>
      intro q o8 hq
      have ih := fun o8 => ih (q + 1) o8 (by omega)
      have hf := (mgC_f (w := w) (v := v) (c := cgC σ p w) (σ := σ) q).trans hf0
      have h1 : hI (mgC σ w v (cgC σ p w) q) 0 7 = (P : Int) := (mgC_o q (fun a ha => by omega)).trans hP
      have h8 : hI (mgC σ w v (cgC σ p w) q) 0 8 = hI σ 0 8 := mgC_o q (fun a ha => by omega)
      have h8r : ∀ k, hI (mgC σ w v (cgC σ p w) q) 8 k = hI σ 8 k := fun k => mgC_o q (fun a ha => by omega)
      have hg2 : GC (mgC σ w v (cgC σ p w) q) := ⟨by rw [h1]; omega, by rw [h8]; omega, fun k hk => by rw [h8r]; exact hrf k hk⟩
      have e2 : hI (mgC σ w v (cgC σ p w) q) (47 + 4 * (10 * q + w)) 2 = hI σ (47 + 4 * (10 * q + w)) 2 := mgC_o q (fun a ha => by omega)
      have e3 : hI (mgC σ w v (cgC σ p w) q) (47 + 4 * (10 * q + w)) 3 = hI σ (47 + 4 * (10 * q + w)) 3 := mgC_o q (fun a ha => by omega)
      have em : hI (mgC σ w v (cgC σ p w) q) (47 + 4 * (10 * q + w) + 2) 0 = hI σ (47 + 4 * (10 * q + w) + 2) 0 := mgC_o q (fun a ha => by omega)
      have et : hI (mgC σ w v (cgC σ p w) q) (47 + 4 * (10 * q + w) + 1) 0 = hI σ (47 + 4 * (10 * q + w) + 1) 0 := mgC_o q (fun a ha => by omega)
      have hrq := hb.1 (10 * q + w) (by omega)
      have hsq : 10 * q + w < 60 := by omega
      have ekk : (10 * (q : Int) + (w : Int)).toNat = 10 * q + w := by omega
      have hwt := wtC_1 (σ := (mgC σ w v (cgC σ p w) q)) (k := 10 * q + w) (by rw [e2]; omega)
      rw [e2, em] at hwt
      have hc := cntB_le (cgC σ p w) q
      have etk : tkC (mgC σ w v (cgC σ p w) q) (10 * q + w) 0 = hI σ (47 + 4 * (10 * q + w) + 1) 0 := (if_pos ⟨by decide, by decide⟩).trans et
      simp only [mgC_s, cntB_s] at ih
      refine g_iload dX6_markGrouped_19 rfl ?_
      refine g_aload_n dX6_markGrouped_21 rfl ?_
      refine g_getI dX6_markGrouped_22 tf_6_51 rfl rfl ?_
      refine g_icmp_ge (tgt := 89) dX6_markGrouped_25 (by decide) (fun c25 => ?_) (fun c25 => ?_)
      · exfalso; omega
      · refine g_aload_n dX6_markGrouped_28 rfl ?_
        refine g_iload dX6_markGrouped_29 rfl ?_
        refine g_iload_n dX6_markGrouped_31 rfl ?_
        refine g_callvR dX6_markGrouped_32 tm_6_83 rfl ⟨rfl, rfl⟩ rfl (Nat.le_of_ble_eq_true rfl) (cc6_sheetOf (by omega) (mgC σ w v (cgC σ p w) q) hf hg2 _ _) (fun z32 s32 h32 => ?_)
        obtain ⟨h32, e32⟩ := h32
        obtain rfl := e32
        obtain rfl : z32 = some (47 + 4 * (10 * (q : Int) + (w : Int)).toNat) := by
          rcases h32 with a | a
          · exact a.2
          · exact absurd (by rw [h1, h8]; omega) a.1
        clear h32
        rw [ekk]
        refine g_astore dX6_markGrouped_35 (by decide) rfl ?_
        refine g_aload dX6_markGrouped_37 rfl ?_
        refine g_ifnull (tgt := 83) dX6_markGrouped_39 (by decide) (fun c39 => ?_) (fun c39 => ?_)
        · exact absurd c39 (by simp)
        · refine g_aload dX6_markGrouped_42 rfl ?_
          refine g_iconst dX6_markGrouped_44 ⟨by decide, by decide⟩ ?_
          refine g_callvI dX6_markGrouped_45 tm_6_170 rfl ⟨rfl, rfl⟩ (lc_s hsq) (Nat.le_of_ble_eq_true rfl) (cc3_waits (by omega) (mgC σ w v (cgC σ p w) q) hf hsq 1 (by rw [e2]; omega)) (fun z45 s45 h45 => ?_)
          obtain ⟨h45, e45⟩ := h45
          obtain rfl := e45
          refine g_if_eq (tgt := 83) dX6_markGrouped_48 (by decide) (fun c48 => ?_) (fun c48 => ?_)
          · refine g_iinc dX6_markGrouped_83 (by decide) rfl ⟨by omega, by omega⟩ (show (q : Int) + 1 = ((q + 1 : Nat) : Int) from by omega) rfl ?_
            refine g_goto (tgt := 19) dX6_markGrouped_86 (by decide) ?_
            first
              | exact ih _
              | (have hcf : ¬ cgC σ p w q = true := by
                   intro h
                   obtain ⟨a1, a2, a3, a4⟩ := of_decide_eq_true h
                   first
                     | (rcases h45 with ⟨b, _⟩ | ⟨_, b⟩
                        · exact absurd (b.symm.trans c48) (by decide)
                        · exact b (hwt.mpr ⟨a1, a2⟩))
                     | (clear h45 hwt; omega)
                 simp only [if_neg hcf, Nat.add_zero] at ih
                 exact ih _)
          · refine g_aload dX6_markGrouped_51 rfl ?_
            refine g_getI dX6_markGrouped_53 tf_6_321 (lc_s hsq) rfl ?_
            rw [e3]
            refine g_iload dX6_markGrouped_56 rfl ?_
            refine g_icmp_ne (tgt := 83) dX6_markGrouped_58 (by decide) (fun c58 => ?_) (fun c58 => ?_)
            · refine g_iinc dX6_markGrouped_83 (by decide) rfl ⟨by omega, by omega⟩ (show (q : Int) + 1 = ((q + 1 : Nat) : Int) from by omega) rfl ?_
              refine g_goto (tgt := 19) dX6_markGrouped_86 (by decide) ?_
              first
                | exact ih _
                | (have hcf : ¬ cgC σ p w q = true := by
                     intro h
                     obtain ⟨a1, a2, a3, a4⟩ := of_decide_eq_true h
                     first
                       | (rcases h45 with ⟨b, _⟩ | ⟨_, b⟩
                          · exact absurd (b.symm.trans c48) (by decide)
                          · exact b (hwt.mpr ⟨a1, a2⟩))
                       | (clear h45 hwt; omega)
                   simp only [if_neg hcf, Nat.add_zero] at ih
                   exact ih _)
            · refine g_aload dX6_markGrouped_61 rfl ?_
              refine g_iconst dX6_markGrouped_63 ⟨by decide, by decide⟩ ?_
              refine g_callvI dX6_markGrouped_64 tm_6_318 rfl ⟨rfl, rfl⟩ (lc_s hsq) (Nat.le_of_ble_eq_true rfl) (cc3_tickOf (by omega) (mgC σ w v (cgC σ p w) q) hf hsq 0) (fun z64 s64 h64 => ?_)
              obtain ⟨rfl, e64⟩ := h64
              obtain rfl := e64
              rw [etk]
              refine g_iload dX6_markGrouped_67 rfl ?_
              refine g_icmp_ne (tgt := 83) dX6_markGrouped_69 (by decide) (fun c69 => ?_) (fun c69 => ?_)
              · refine g_iinc dX6_markGrouped_83 (by decide) rfl ⟨by omega, by omega⟩ (show (q : Int) + 1 = ((q + 1 : Nat) : Int) from by omega) rfl ?_
                refine g_goto (tgt := 19) dX6_markGrouped_86 (by decide) ?_
                first
                  | exact ih _
                  | (have hcf : ¬ cgC σ p w q = true := by
                       intro h
                       obtain ⟨a1, a2, a3, a4⟩ := of_decide_eq_true h
                       first
                         | (rcases h45 with ⟨b, _⟩ | ⟨_, b⟩
                            · exact absurd (b.symm.trans c48) (by decide)
                            · exact b (hwt.mpr ⟨a1, a2⟩))
                         | (clear h45 hwt; omega)
                     simp only [if_neg hcf, Nat.add_zero] at ih
                     exact ih _)
              · have hct : cgC σ p w q = true := decide_eq_true ⟨by rcases h45 with ⟨_, a⟩ | ⟨a, _⟩; exact (hwt.mp a).1; exact absurd a c48, by rcases h45 with ⟨_, a⟩ | ⟨a, _⟩; exact (hwt.mp a).2; exact absurd a c48, by omega, by omega⟩
                clear h45 hwt
                simp only [if_pos hct] at ih
                refine g_aload dX6_markGrouped_72 rfl ?_
                refine g_iconst dX6_markGrouped_74 ⟨by decide, by decide⟩ ?_
                refine g_iload_n dX6_markGrouped_75 rfl ?_
                refine g_callvI dX6_markGrouped_76 tm_6_180 rfl ⟨rfl, rfl⟩ (lc_s hsq) (Nat.le_of_ble_eq_true rfl) (cc3_put (by omega) (mgC σ w v (cgC σ p w) q) hf hsq 0 (by omega) v) (fun z76 s76 h76 => ?_)
                obtain ⟨rfl, rfl⟩ := h76
                refine g_pop dX6_markGrouped_79 rfl ?_
                refine g_iinc dX6_markGrouped_80 (by decide) rfl ⟨by omega, by omega⟩ (show (cntB (cgC σ p w) q : Int) + 1 = ((cntB (cgC σ p w) q + 1 : Nat) : Int) from by omega) rfl ?_
                refine g_iinc dX6_markGrouped_83 (by decide) rfl ⟨by omega, by omega⟩ (show (q : Int) + 1 = ((q + 1 : Nat) : Int) from by omega) rfl ?_
                refine g_goto (tgt := 19) dX6_markGrouped_86 (by decide) ?_
                first
                  | exact ih _
                  | (have hcf : ¬ cgC σ p w q = true := by
                       intro h
                       obtain ⟨a1, a2, a3, a4⟩ := of_decide_eq_true h
                       first
                         | (rcases h45 with ⟨b, _⟩ | ⟨_, b⟩
                            · exact absurd (b.symm.trans c48) (by decide)
                            · exact b (hwt.mpr ⟨a1, a2⟩))
                         | (clear h45 hwt; omega)
                     simp only [if_neg hcf, Nat.add_zero] at ih
                     exact ih _)
  have etp : tkC σ (10 * p + w) 0 = hI σ (47 + 4 * (10 * p + w) + 1) 0 := if_pos ⟨by decide, by decide⟩
  refine g_aload_n dX6_markGrouped_0 rfl ?_
  refine g_iconst dX6_markGrouped_1 ⟨by decide, by decide⟩ ?_
  refine g_callvI dX6_markGrouped_2 tm_6_318 rfl ⟨rfl, rfl⟩ (lc_s hs) (Nat.le_of_ble_eq_true rfl) (cc3_tickOf (by omega) σ hf hs 0) (fun z2 s2 h2 => ?_)
  obtain ⟨rfl, e2⟩ := h2
  obtain rfl := e2.symm
  rw [etp]
  refine g_istore dX6_markGrouped_5 (by decide) rfl ?_
  refine g_aload_n dX6_markGrouped_7 rfl ?_
  refine g_getI dX6_markGrouped_8 tf_6_321 (lc_s hs) rfl ?_
  refine g_istore dX6_markGrouped_11 (by decide) rfl ?_
  refine g_iconst dX6_markGrouped_13 ⟨by decide, by decide⟩ ?_
  refine g_istore dX6_markGrouped_14 (by decide) rfl ?_
  refine g_iconst dX6_markGrouped_16 ⟨by decide, by decide⟩ ?_
  refine g_istore dX6_markGrouped_17 (by decide) rfl ?_
  exact loop P 0 none (by omega)
theorem cc6_mark {D : Nat} (hD : 5 ≤ D) (σ : am_HS) {b : Nat} (hf : σ.2.2 = cH b) (hg : GC σ) (hb : rgC σ) (h5 : 0 ≤ hI σ 0 11 ∧ hI σ 0 11 ≤ 100000) (P : Nat) (hP : hI σ 0 7 = (P : Int)) (p w v : Int) : am_Do lc D mX6_mark σ [vR (some 0), vI p, vI w, vI v] (qI fun z s => (¬ (0 ≤ p ∧ p < hI σ 0 7 ∧ 0 ≤ w ∧ w < hI σ 0 8) ∧ z = -1 ∧ s = uI σ 8 1 (hI σ 8 1 + 1)) ∨ ((0 ≤ p ∧ p < hI σ 0 7 ∧ 0 ≤ w ∧ w < hI σ 0 8) ∧ ((hI σ (37 + w.toNat) 0 = 3 ∨ ¬ wtC σ (10 * p.toNat + w.toNat) (hI σ (37 + w.toNat) 0)) ∧ z = -3 ∧ s = uI σ 8 3 (hI σ 8 3 + 1) ∨ ¬ (hI σ (37 + w.toNat) 0 = 3 ∨ ¬ wtC σ (10 * p.toNat + w.toNat) (hI σ (37 + w.toNat) 0)) ∧ (v < 0 ∧ z = -4 ∧ s = uI σ 8 4 (hI σ 8 4 + 1) ∨ 0 ≤ v ∧ hI σ (37 + w.toNat) 1 < v ∧ z = -6 ∧ s = uI σ 8 6 (hI σ 8 6 + 1) ∨ 0 ≤ v ∧ v ≤ hI σ (37 + w.toNat) 1 ∧ (hI σ (37 + w.toNat) 0 = 1 ∧ z = (cntB (cgC σ p.toNat w.toNat) P : Int) ∧ s = uI (mgC σ w.toNat v (cgC σ p.toNat w.toNat) P) 0 11 (hI σ 0 11 + (cntB (cgC σ p.toNat w.toNat) P : Int)) ∨ hI σ (37 + w.toNat) 0 ≠ 1 ∧ z = 1 ∧ s = uI (uI σ (47 + 4 * (10 * p.toNat + w.toNat) + 2) ((ltC σ (10 * p.toNat + w.toNat) (hI σ (37 + w.toNat) 0)).toNat) v) 0 11 (hI σ 0 11 + 1)))))) := by
  obtain ⟨hg1, hg2, hrf⟩ := id hg
  obtain ⟨d, rfl⟩ : ∃ d, D = d + 1 := ⟨D - 1, by omega⟩
  refine am_enter rfl rfl (Nat.le_of_ble_eq_true rfl) ?_
  refine g_aload_n dX6_mark_0 rfl ?_
  refine g_iload_n dX6_mark_1 rfl ?_
  refine g_callvR dX6_mark_2 tm_6_67 rfl ⟨rfl, rfl⟩ rfl (Nat.le_of_ble_eq_true rfl) (cc6_workAt (by omega) σ hf _ (by omega)) (fun z2 s2 h2 => ?_)
  obtain ⟨h2, e2⟩ := h2
  obtain rfl := e2.symm
  refine g_astore dX6_mark_5 (by decide) rfl ?_
  refine g_aload_n dX6_mark_7 rfl ?_
  refine g_iload_n dX6_mark_8 rfl ?_
  refine g_iload_n dX6_mark_9 rfl ?_
  refine g_callvR dX6_mark_10 tm_6_83 rfl ⟨rfl, rfl⟩ rfl (Nat.le_of_ble_eq_true rfl) (cc6_sheetOf (by omega) σ hf hg _ _) (fun z10 s10 h10 => ?_)
  obtain ⟨h10, e10⟩ := h10
  obtain rfl := e10.symm
  refine g_astore dX6_mark_13 (by decide) rfl ?_
  refine g_aload dX6_mark_15 rfl ?_
  refine g_ifnull (tgt := 25) dX6_mark_17 (by decide) (fun c17 => ?_) (fun c17 => ?_)
  · have hno : ¬ (0 ≤ p ∧ p < hI σ 0 7 ∧ 0 ≤ w ∧ w < hI σ 0 8) := by
      rcases h2 with a | a
      · exact absurd (a.2.symm.trans c17) (by simp)
      · intro q; exact a.1 (by omega)
    refine g_aload_n dX6_mark_25 rfl ?_
    refine g_iconst dX6_mark_26 ⟨by decide, by decide⟩ ?_
    refine g_callvI dX6_mark_27 tm_6_55 rfl ⟨rfl, rfl⟩ rfl (Nat.le_of_ble_eq_true rfl) (cc6_refuse (by omega) σ hf _ ⟨by omega, by omega⟩ hrf) (fun z27 s27 h27 => ?_)
    obtain ⟨rfl, rfl⟩ := h27
    refine g_ireturn dX6_mark_30 (Or.inl rfl) ⟨_, rfl, ?_⟩
    first
      | exact Or.inl ⟨hno, rfl, rfl⟩
      | exact Or.inr ⟨hin, Or.inl ⟨Or.inl (by omega), rfl, rfl⟩⟩
      | exact Or.inr ⟨hin, Or.inl ⟨Or.inr (by rcases h47 with ⟨a, _⟩ | ⟨_, a⟩; exact absurd (a.symm.trans (Classical.not_not.mp c50)) (by decide); exact a), rfl, rfl⟩⟩
      | exact Or.inr ⟨hin, Or.inr ⟨hmn, Or.inl ⟨by omega, rfl, rfl⟩⟩⟩
      | exact Or.inr ⟨hin, Or.inr ⟨hmn, Or.inr (Or.inl ⟨by omega, by omega, rfl, rfl⟩)⟩⟩
      | exact Or.inr ⟨hin, Or.inr ⟨hmn, Or.inr (Or.inr ⟨by omega, by omega, Or.inl ⟨by omega, rfl, rfl⟩⟩)⟩⟩
      | (exact Or.inr ⟨hin, Or.inr ⟨hmn, Or.inr (Or.inr ⟨by omega, by omega, Or.inr ⟨by omega, rfl, rfl⟩⟩)⟩⟩)
  · obtain ⟨hwi, rfl⟩ : (0 ≤ w ∧ w < hI σ 0 8) ∧ z2 = some (37 + w.toNat) := by
      rcases h2 with a | a
      · exact a
      · exact absurd a.2 c17
    clear h2
    refine g_aload dX6_mark_20 rfl ?_
    refine g_ifnonnull (tgt := 31) dX6_mark_22 (by decide) (fun c22 => ?_) (fun c22 => ?_)
    · have hno : ¬ (0 ≤ p ∧ p < hI σ 0 7 ∧ 0 ≤ w ∧ w < hI σ 0 8) := by
        rcases h10 with a | a
        · exact absurd (a.2.symm.trans c22) (by simp)
        · intro q; exact a.1 (by omega)
      refine g_aload_n dX6_mark_25 rfl ?_
      refine g_iconst dX6_mark_26 ⟨by decide, by decide⟩ ?_
      refine g_callvI dX6_mark_27 tm_6_55 rfl ⟨rfl, rfl⟩ rfl (Nat.le_of_ble_eq_true rfl) (cc6_refuse (by omega) σ hf _ ⟨by omega, by omega⟩ hrf) (fun z27 s27 h27 => ?_)
      obtain ⟨rfl, rfl⟩ := h27
      refine g_ireturn dX6_mark_30 (Or.inl rfl) ⟨_, rfl, ?_⟩
      first
        | exact Or.inl ⟨hno, rfl, rfl⟩
        | exact Or.inr ⟨hin, Or.inl ⟨Or.inl (by omega), rfl, rfl⟩⟩
        | exact Or.inr ⟨hin, Or.inl ⟨Or.inr (by rcases h47 with ⟨a, _⟩ | ⟨_, a⟩; exact absurd (a.symm.trans (Classical.not_not.mp c50)) (by decide); exact a), rfl, rfl⟩⟩
        | exact Or.inr ⟨hin, Or.inr ⟨hmn, Or.inl ⟨by omega, rfl, rfl⟩⟩⟩
        | exact Or.inr ⟨hin, Or.inr ⟨hmn, Or.inr (Or.inl ⟨by omega, by omega, rfl, rfl⟩)⟩⟩
        | exact Or.inr ⟨hin, Or.inr ⟨hmn, Or.inr (Or.inr ⟨by omega, by omega, Or.inl ⟨by omega, rfl, rfl⟩⟩)⟩⟩
        | (exact Or.inr ⟨hin, Or.inr ⟨hmn, Or.inr (Or.inr ⟨by omega, by omega, Or.inr ⟨by omega, rfl, rfl⟩⟩)⟩⟩)
    · obtain ⟨hin, rfl⟩ : (0 ≤ p ∧ p < hI σ 0 7 ∧ 0 ≤ w ∧ w < hI σ 0 8) ∧ z10 = some (47 + 4 * (10 * p + w).toNat) := by
        rcases h10 with a | a
        · exact a
        · exact absurd a.2 c22
      clear h10
      obtain ⟨p, rfl⟩ : ∃ q : Nat, p = (q : Int) := ⟨p.toNat, by omega⟩
      obtain ⟨w, rfl⟩ : ∃ q : Nat, w = (q : Int) := ⟨w.toNat, by omega⟩
      have hp : p < 6 := by omega
      have hw : w < 10 := by omega
      have hs : 10 * p + w < 60 := by omega
      have ek : (10 * (p : Int) + (w : Int)).toNat = 10 * p + w := by omega
      simp only [Int.toNat_natCast]
      rw [ek]
      have hrk := hb.1 (10 * p + w) hs
      refine g_aload dX6_mark_31 rfl ?_
      refine g_getI dX6_mark_33 tf_6_71 (lc_w hw) rfl ?_
      refine g_iconst dX6_mark_36 ⟨by decide, by decide⟩ ?_
      refine g_icmp_eq (tgt := 53) dX6_mark_37 (by decide) (fun c37 => ?_) (fun c37 => ?_)
      · refine g_aload_n dX6_mark_53 rfl ?_
        refine g_bipush dX6_mark_54 (by decide) ?_
        refine g_callvI dX6_mark_56 tm_6_55 rfl ⟨rfl, rfl⟩ rfl (Nat.le_of_ble_eq_true rfl) (cc6_refuse (by omega) σ hf _ ⟨by omega, by omega⟩ hrf) (fun z56 s56 h56 => ?_)
        obtain ⟨rfl, rfl⟩ := h56
        refine g_ireturn dX6_mark_59 (Or.inl rfl) ⟨_, rfl, ?_⟩
        first
          | exact Or.inl ⟨hno, rfl, rfl⟩
          | exact Or.inr ⟨hin, Or.inl ⟨Or.inl (by omega), rfl, rfl⟩⟩
          | exact Or.inr ⟨hin, Or.inl ⟨Or.inr (by rcases h47 with ⟨a, _⟩ | ⟨_, a⟩; exact absurd (a.symm.trans (Classical.not_not.mp c50)) (by decide); exact a), rfl, rfl⟩⟩
          | exact Or.inr ⟨hin, Or.inr ⟨hmn, Or.inl ⟨by omega, rfl, rfl⟩⟩⟩
          | exact Or.inr ⟨hin, Or.inr ⟨hmn, Or.inr (Or.inl ⟨by omega, by omega, rfl, rfl⟩)⟩⟩
          | exact Or.inr ⟨hin, Or.inr ⟨hmn, Or.inr (Or.inr ⟨by omega, by omega, Or.inl ⟨by omega, rfl, rfl⟩⟩)⟩⟩
          | (exact Or.inr ⟨hin, Or.inr ⟨hmn, Or.inr (Or.inr ⟨by omega, by omega, Or.inr ⟨by omega, rfl, rfl⟩⟩)⟩⟩)
      · refine g_aload dX6_mark_40 rfl ?_
        refine g_aload dX6_mark_42 rfl ?_
        refine g_getI dX6_mark_44 tf_6_71 (lc_w hw) rfl ?_
        refine g_callvI dX6_mark_47 tm_6_170 rfl ⟨rfl, rfl⟩ (lc_s hs) (Nat.le_of_ble_eq_true rfl) (cc3_waits (by omega) σ hf hs _ hrk.2.2.1) (fun z47 s47 h47 => ?_)
        obtain ⟨h47, e47⟩ := h47
        obtain rfl := e47.symm
        refine g_if_ne (tgt := 60) dX6_mark_50 (by decide) (fun c50 => ?_) (fun c50 => ?_)
        · have hwt : wtC σ (10 * p + w) (hI σ (37 + w) 0) := by
            rcases h47 with ⟨_, a⟩ | ⟨a, _⟩
            · exact a
            · exact absurd a c50
          clear h47
          have hmn : ¬ (hI σ (37 + w) 0 = 3 ∨ ¬ wtC σ (10 * p + w) (hI σ (37 + w) 0)) := fun h => h.elim c37 (fun q => q hwt)
          refine g_iload_n dX6_mark_60 rfl ?_
          refine g_if_ge (tgt := 71) dX6_mark_61 (by decide) (fun c61 => ?_) (fun c61 => ?_)
          · refine g_iload_n dX6_mark_71 rfl ?_
            refine g_aload dX6_mark_72 rfl ?_
            refine g_getI dX6_mark_74 tf_6_74 (lc_w hw) rfl ?_
            refine g_icmp_le (tgt := 87) dX6_mark_77 (by decide) (fun c77 => ?_) (fun c77 => ?_)
            · refine g_aload dX6_mark_87 rfl ?_
              refine g_getI dX6_mark_89 tf_6_71 (lc_w hw) rfl ?_
              refine g_iconst dX6_mark_92 ⟨by decide, by decide⟩ ?_
              refine g_icmp_ne (tgt := 105) dX6_mark_93 (by decide) (fun c93 => ?_) (fun c93 => ?_)
              · refine g_aload dX6_mark_105 rfl ?_
                refine g_aload dX6_mark_107 rfl ?_
                refine g_aload dX6_mark_109 rfl ?_
                refine g_getI dX6_mark_111 tf_6_71 (lc_w hw) rfl ?_
                refine g_callvI dX6_mark_114 tm_6_177 rfl ⟨rfl, rfl⟩ (lc_s hs) (Nat.le_of_ble_eq_true rfl) (cc3_latest (by omega) σ hf hs _ hrk.2.2.1) (fun z114 s114 h114 => ?_)
                obtain ⟨rfl, e114⟩ := h114
                obtain rfl := e114.symm
                refine g_iload_n dX6_mark_117 rfl ?_
                obtain ⟨t, ht⟩ : ∃ t : Nat, ltC σ (10 * p + w) (hI σ (37 + w) 0) = (t : Int) := ⟨(ltC σ (10 * p + w) (hI σ (37 + w) 0)).toNat, by have := hwt.1; omega⟩
                have ht3 : (t : Int) < 3 := by rw [← ht]; exact hwt.2.1
                have htn : (ltC σ (10 * p + w) (hI σ (37 + w) 0)).toNat = t := by omega
                rw [ht]
                refine g_callvI dX6_mark_118 tm_6_180 rfl ⟨rfl, rfl⟩ (lc_s hs) (Nat.le_of_ble_eq_true rfl) (cc3_put (by omega) σ hf hs t (by omega) v) (fun z118 s118 h118 => ?_)
                obtain ⟨rfl, rfl⟩ := h118
                refine g_pop dX6_mark_121 rfl ?_
                refine g_aload_n dX6_mark_122 rfl ?_
                refine g_dup dX6_mark_123 rfl ?_
                refine g_getI dX6_mark_124 tf_6_183 rfl rfl ?_
                rw [hI_uI_n (by omega)]
                refine g_iconst dX6_mark_127 ⟨by decide, by decide⟩ ?_
                refine g_iadd dX6_mark_128 rfl ⟨by omega, by omega⟩ ?_
                refine g_putI dX6_mark_129 tf_6_183 rfl rfl rfl ?_
                refine g_iconst dX6_mark_132 ⟨by decide, by decide⟩ ?_
                refine g_ireturn dX6_mark_133 (Or.inl rfl) ⟨_, rfl, ?_⟩
                first
                  | exact Or.inl ⟨hno, rfl, rfl⟩
                  | exact Or.inr ⟨hin, Or.inl ⟨Or.inl (by omega), rfl, rfl⟩⟩
                  | exact Or.inr ⟨hin, Or.inl ⟨Or.inr (by rcases h47 with ⟨a, _⟩ | ⟨_, a⟩; exact absurd (a.symm.trans (Classical.not_not.mp c50)) (by decide); exact a), rfl, rfl⟩⟩
                  | exact Or.inr ⟨hin, Or.inr ⟨hmn, Or.inl ⟨by omega, rfl, rfl⟩⟩⟩
                  | exact Or.inr ⟨hin, Or.inr ⟨hmn, Or.inr (Or.inl ⟨by omega, by omega, rfl, rfl⟩)⟩⟩
                  | exact Or.inr ⟨hin, Or.inr ⟨hmn, Or.inr (Or.inr ⟨by omega, by omega, Or.inl ⟨by omega, rfl, rfl⟩⟩)⟩⟩
                  | (exact Or.inr ⟨hin, Or.inr ⟨hmn, Or.inr (Or.inr ⟨by omega, by omega, Or.inr ⟨by omega, rfl, rfl⟩⟩)⟩⟩)
              · refine g_aload_n dX6_mark_96 rfl ?_
                refine g_aload dX6_mark_97 rfl ?_
                refine g_iload_n dX6_mark_99 rfl ?_
                refine g_iload_n dX6_mark_100 rfl ?_
                refine g_callvI dX6_mark_101 tm_6_173 rfl ⟨rfl, rfl⟩ rfl (Nat.le_of_ble_eq_true rfl) (cc6_markGrouped (by omega) σ hf hg hb h5 P hP p w (by omega) (by omega) v) (fun z101 s101 h101 => ?_)
                obtain ⟨rfl, rfl⟩ := h101
                refine g_ireturn dX6_mark_104 (Or.inl rfl) ⟨_, rfl, ?_⟩
                first
                  | exact Or.inl ⟨hno, rfl, rfl⟩
                  | exact Or.inr ⟨hin, Or.inl ⟨Or.inl (by omega), rfl, rfl⟩⟩
                  | exact Or.inr ⟨hin, Or.inl ⟨Or.inr (by rcases h47 with ⟨a, _⟩ | ⟨_, a⟩; exact absurd (a.symm.trans (Classical.not_not.mp c50)) (by decide); exact a), rfl, rfl⟩⟩
                  | exact Or.inr ⟨hin, Or.inr ⟨hmn, Or.inl ⟨by omega, rfl, rfl⟩⟩⟩
                  | exact Or.inr ⟨hin, Or.inr ⟨hmn, Or.inr (Or.inl ⟨by omega, by omega, rfl, rfl⟩)⟩⟩
                  | exact Or.inr ⟨hin, Or.inr ⟨hmn, Or.inr (Or.inr ⟨by omega, by omega, Or.inl ⟨by omega, rfl, rfl⟩⟩)⟩⟩
                  | (exact Or.inr ⟨hin, Or.inr ⟨hmn, Or.inr (Or.inr ⟨by omega, by omega, Or.inr ⟨by omega, rfl, rfl⟩⟩)⟩⟩)
            · refine g_aload_n dX6_mark_80 rfl ?_
              refine g_bipush dX6_mark_81 (by decide) ?_
              refine g_callvI dX6_mark_83 tm_6_55 rfl ⟨rfl, rfl⟩ rfl (Nat.le_of_ble_eq_true rfl) (cc6_refuse (by omega) σ hf _ ⟨by omega, by omega⟩ hrf) (fun z83 s83 h83 => ?_)
              obtain ⟨rfl, rfl⟩ := h83
              refine g_ireturn dX6_mark_86 (Or.inl rfl) ⟨_, rfl, ?_⟩
              first
                | exact Or.inl ⟨hno, rfl, rfl⟩
                | exact Or.inr ⟨hin, Or.inl ⟨Or.inl (by omega), rfl, rfl⟩⟩
                | exact Or.inr ⟨hin, Or.inl ⟨Or.inr (by rcases h47 with ⟨a, _⟩ | ⟨_, a⟩; exact absurd (a.symm.trans (Classical.not_not.mp c50)) (by decide); exact a), rfl, rfl⟩⟩
                | exact Or.inr ⟨hin, Or.inr ⟨hmn, Or.inl ⟨by omega, rfl, rfl⟩⟩⟩
                | exact Or.inr ⟨hin, Or.inr ⟨hmn, Or.inr (Or.inl ⟨by omega, by omega, rfl, rfl⟩)⟩⟩
                | exact Or.inr ⟨hin, Or.inr ⟨hmn, Or.inr (Or.inr ⟨by omega, by omega, Or.inl ⟨by omega, rfl, rfl⟩⟩)⟩⟩
                | (exact Or.inr ⟨hin, Or.inr ⟨hmn, Or.inr (Or.inr ⟨by omega, by omega, Or.inr ⟨by omega, rfl, rfl⟩⟩)⟩⟩)
          · refine g_aload_n dX6_mark_64 rfl ?_
            refine g_bipush dX6_mark_65 (by decide) ?_
            refine g_callvI dX6_mark_67 tm_6_55 rfl ⟨rfl, rfl⟩ rfl (Nat.le_of_ble_eq_true rfl) (cc6_refuse (by omega) σ hf _ ⟨by omega, by omega⟩ hrf) (fun z67 s67 h67 => ?_)
            obtain ⟨rfl, rfl⟩ := h67
            refine g_ireturn dX6_mark_70 (Or.inl rfl) ⟨_, rfl, ?_⟩
            first
              | exact Or.inl ⟨hno, rfl, rfl⟩
              | exact Or.inr ⟨hin, Or.inl ⟨Or.inl (by omega), rfl, rfl⟩⟩
              | exact Or.inr ⟨hin, Or.inl ⟨Or.inr (by rcases h47 with ⟨a, _⟩ | ⟨_, a⟩; exact absurd (a.symm.trans (Classical.not_not.mp c50)) (by decide); exact a), rfl, rfl⟩⟩
              | exact Or.inr ⟨hin, Or.inr ⟨hmn, Or.inl ⟨by omega, rfl, rfl⟩⟩⟩
              | exact Or.inr ⟨hin, Or.inr ⟨hmn, Or.inr (Or.inl ⟨by omega, by omega, rfl, rfl⟩)⟩⟩
              | exact Or.inr ⟨hin, Or.inr ⟨hmn, Or.inr (Or.inr ⟨by omega, by omega, Or.inl ⟨by omega, rfl, rfl⟩⟩)⟩⟩
              | (exact Or.inr ⟨hin, Or.inr ⟨hmn, Or.inr (Or.inr ⟨by omega, by omega, Or.inr ⟨by omega, rfl, rfl⟩⟩)⟩⟩)
        · refine g_aload_n dX6_mark_53 rfl ?_
          refine g_bipush dX6_mark_54 (by decide) ?_
          refine g_callvI dX6_mark_56 tm_6_55 rfl ⟨rfl, rfl⟩ rfl (Nat.le_of_ble_eq_true rfl) (cc6_refuse (by omega) σ hf _ ⟨by omega, by omega⟩ hrf) (fun z56 s56 h56 => ?_)
          obtain ⟨rfl, rfl⟩ := h56
          refine g_ireturn dX6_mark_59 (Or.inl rfl) ⟨_, rfl, ?_⟩
          first
            | exact Or.inl ⟨hno, rfl, rfl⟩
            | exact Or.inr ⟨hin, Or.inl ⟨Or.inl (by omega), rfl, rfl⟩⟩
            | exact Or.inr ⟨hin, Or.inl ⟨Or.inr (by rcases h47 with ⟨a, _⟩ | ⟨_, a⟩; exact absurd (a.symm.trans (Classical.not_not.mp c50)) (by decide); exact a), rfl, rfl⟩⟩
            | exact Or.inr ⟨hin, Or.inr ⟨hmn, Or.inl ⟨by omega, rfl, rfl⟩⟩⟩
            | exact Or.inr ⟨hin, Or.inr ⟨hmn, Or.inr (Or.inl ⟨by omega, by omega, rfl, rfl⟩)⟩⟩
            | exact Or.inr ⟨hin, Or.inr ⟨hmn, Or.inr (Or.inr ⟨by omega, by omega, Or.inl ⟨by omega, rfl, rfl⟩⟩)⟩⟩
            | (exact Or.inr ⟨hin, Or.inr ⟨hmn, Or.inr (Or.inr ⟨by omega, by omega, Or.inr ⟨by omega, rfl, rfl⟩⟩)⟩⟩)

def haC (σ : am_HS) (w p : Nat) : Nat → am_HS
  | 0 => σ
  | q + 1 => if hI σ 1 q = hI σ 1 p then adC (haC σ w p q) (10 * q + w) 1 (hI σ 0 9) (p : Int) else haC σ w p q
theorem haC_s (σ : am_HS) (w p q : Nat) : haC σ w p (q + 1) = if hI σ 1 q = hI σ 1 p then adC (haC σ w p q) (10 * q + w) 1 (hI σ 0 9) (p : Int) else haC σ w p q := rfl
theorem adC_f {σ : am_HS} {k : Nat} {a b c : Int} : (adC σ k a b c).2.2 = σ.2.2 := by
  unfold adC
  split <;> rfl
theorem adC_o {σ : am_HS} {k : Nat} {a b c : Int} {o j : Nat} (h : ¬ (o = 47 + 4 * k ∧ (j = 2 ∨ j = 3)) ∧ o ≠ 47 + 4 * k + 1) : hI (adC σ k a b c) o j = hI σ o j := by
  unfold adC
  split
  · rw [hI_uI_n (by omega), hI_uI_n (by omega), hI_uI_n (by omega)]
  · rw [hI_uI_n (by omega), hI_uI_n (by omega)]
theorem haC_f {σ : am_HS} {w p : Nat} : ∀ q, (haC σ w p q).2.2 = σ.2.2
  | 0 => rfl
  | q + 1 => by
    rw [haC_s]
    split
    · rw [adC_f]; exact haC_f q
    · exact haC_f q
theorem haC_o {σ : am_HS} {w p : Nat} {o j : Nat} : ∀ q, (∀ a, a < q → ¬ (o = 47 + 4 * (10 * a + w) ∧ (j = 2 ∨ j = 3)) ∧ o ≠ 47 + 4 * (10 * a + w) + 1) → hI (haC σ w p q) o j = hI σ o j
  | 0, _ => rfl
  | q + 1, h => by
    rw [haC_s]
    split
    · rw [adC_o (h q (by omega)), haC_o q (fun a ha => h a (by omega))]
    · exact haC_o q (fun a ha => h a (by omega))
def sgC (σ : am_HS) (p : Nat) : Nat → Bool := fun q => decide (hI σ 1 q = hI σ 1 p)
theorem cc6_handGrouped {D : Nat} (hD : 4 ≤ D) (σ : am_HS) {b : Nat} (hf : σ.2.2 = cH b) (hg : GC σ) (hb : rgC σ) (hhm : ∀ k, k < 60 → hI σ (47 + 4 * k) 2 ≤ 90000) (h10 : 0 ≤ hI σ 0 10 ∧ hI σ 0 10 ≤ 100000) (P : Nat) (hP : hI σ 0 7 = (P : Int)) (p w : Nat) (hp : p < P) (hw : (w : Int) < hI σ 0 8) : am_Do lc D mX6_handGrouped σ [vR (some 0), vI (p : Int), vI (w : Int)] (qI fun z s => (∃ q, q < P ∧ hI σ 1 q = hI σ 1 p ∧ (0 ≤ lmC σ (10 * q + w) ∨ 0 < shC σ (10 * q + w))) ∧ z = -3 ∧ s = uI σ 8 3 (hI σ 8 3 + 1) ∨ ¬ (∃ q, q < P ∧ hI σ 1 q = hI σ 1 p ∧ (0 ≤ lmC σ (10 * q + w) ∨ 0 < shC σ (10 * q + w))) ∧ z = (cntB (sgC σ p) P : Int) ∧ s = uI (haC σ w p P) 0 10 (hI σ 0 10 + (cntB (sgC σ p) P : Int))) := by
  obtain ⟨hg1, hg2, hrf⟩ := id hg
  have hP6 : P ≤ 6 := by omega
  have hw10 : w < 10 := by omega
  have hf0 := hf
  have hp6 : p < 6 := by omega
  obtain ⟨d, rfl⟩ : ∃ d, D = d + 1 := ⟨D - 1, by omega⟩
  refine am_enter rfl rfl (Nat.le_of_ble_eq_true rfl) ?_
  have loop2 : ¬ (∃ q, q < P ∧ hI σ 1 q = hI σ 1 p ∧ (0 ≤ lmC σ (10 * q + w) ∨ 0 < shC σ (10 * q + w))) → ∀ (m q : Nat) (o6 : Option am_V), q + m = P → am_Go lc d 6 7 1 cX6_handGrouped 82 [some (vR (some 0)), some (vI (p : Int)), some (vI (w : Int)), some (vI (hI σ 1 p)), some (vI (cntB (sgC σ p) q : Int)), some (vI (q : Int)), o6] [] (haC σ w p q) (qI fun z s => (∃ q, q < P ∧ hI σ 1 q = hI σ 1 p ∧ (0 ≤ lmC σ (10 * q + w) ∨ 0 < shC σ (10 * q + w))) ∧ z = -3 ∧ s = uI σ 8 3 (hI σ 8 3 + 1) ∨ ¬ (∃ q, q < P ∧ hI σ 1 q = hI σ 1 p ∧ (0 ≤ lmC σ (10 * q + w) ∨ 0 < shC σ (10 * q + w))) ∧ z = (cntB (sgC σ p) P : Int) ∧ s = uI (haC σ w p P) 0 10 (hI σ 0 10 + (cntB (sgC σ p) P : Int))) := by
    intro hno m
    induction m with
    | zero =>
      intro q o6 hq
      have hq2 : q = P := by omega
      subst hq2
      have hf := (haC_f (w := w) (p := p) (σ := σ) q).trans hf0
      have h1 : hI (haC σ w p q) 0 7 = (q : Int) := (haC_o q (fun a ha => by omega)).trans hP
      have h11 : hI (haC σ w p q) 0 10 = hI σ 0 10 := haC_o q (fun a ha => by omega)
      have hc := cntB_le (sgC σ p) q
      refine g_iload dX6_handGrouped_82 rfl ?_
      refine g_aload_n dX6_handGrouped_84 rfl ?_
      refine g_getI dX6_handGrouped_85 tf_6_51 rfl rfl ?_
      refine g_icmp_ge (tgt := 135) dX6_handGrouped_88 (by decide) (fun c88 => ?_) (fun c88 => ?_)
      · refine g_aload_n dX6_handGrouped_135 rfl ?_
        refine g_dup dX6_handGrouped_136 rfl ?_
        refine g_getI dX6_handGrouped_137 tf_6_167 rfl rfl ?_
        rw [h11]
        refine g_iload dX6_handGrouped_140 rfl ?_
        refine g_iadd dX6_handGrouped_142 rfl ⟨by omega, by omega⟩ ?_
        refine g_putI dX6_handGrouped_143 tf_6_167 rfl rfl rfl ?_
        refine g_iload dX6_handGrouped_146 rfl ?_
        refine g_ireturn dX6_handGrouped_148 (Or.inl rfl) ⟨_, rfl, ?_⟩
        exact Or.inr ⟨hno, rfl, rfl⟩
      · exfalso; omega
    | succ m ih =>
      intro q o6 hq
      have ih := fun o6 => ih (q + 1) o6 (by omega)
      have hf := (haC_f (w := w) (p := p) (σ := σ) q).trans hf0
      have h1 : hI (haC σ w p q) 0 7 = (P : Int) := (haC_o q (fun a ha => by omega)).trans hP
      have h8 : hI (haC σ w p q) 0 8 = hI σ 0 8 := haC_o q (fun a ha => by omega)
      have h9 : hI (haC σ w p q) 0 9 = hI σ 0 9 := haC_o q (fun a ha => by omega)
      have h1k : ∀ k, hI (haC σ w p q) 1 k = hI σ 1 k := fun k => haC_o q (fun a ha => by omega)
      have h8r : ∀ k, hI (haC σ w p q) 8 k = hI σ 8 k := fun k => haC_o q (fun a ha => by omega)
      have hg2 : GC (haC σ w p q) := ⟨by rw [h1]; omega, by rw [h8]; omega, fun k hk => by rw [h8r]; exact hrf k hk⟩
      have e2 : hI (haC σ w p q) (47 + 4 * (10 * q + w)) 2 = hI σ (47 + 4 * (10 * q + w)) 2 := haC_o q (fun a ha => by omega)
      have hrq := hb.1 (10 * q + w) (by omega)
      have hmq := hhm (10 * q + w) (by omega)
      have hsq : 10 * q + w < 60 := by omega
      have ekk : (10 * (q : Int) + (w : Int)).toNat = 10 * q + w := by omega
      have hc := cntB_le (sgC σ p) q
      simp only [haC_s, cntB_s] at ih
      refine g_iload dX6_handGrouped_82 rfl ?_
      refine g_aload_n dX6_handGrouped_84 rfl ?_
      refine g_getI dX6_handGrouped_85 tf_6_51 rfl rfl ?_
      refine g_icmp_ge (tgt := 135) dX6_handGrouped_88 (by decide) (fun c88 => ?_) (fun c88 => ?_)
      · exfalso; omega
      · refine g_aload_n dX6_handGrouped_91 rfl ?_
        refine g_iload dX6_handGrouped_92 rfl ?_
        refine g_iload_n dX6_handGrouped_94 rfl ?_
        refine g_callvR dX6_handGrouped_95 tm_6_83 rfl ⟨rfl, rfl⟩ rfl (Nat.le_of_ble_eq_true rfl) (cc6_sheetOf (by omega) (haC σ w p q) hf hg2 _ _) (fun z95 s95 h95 => ?_)
        obtain ⟨h95, e95⟩ := h95
        obtain rfl := e95
        obtain rfl : z95 = some (47 + 4 * (10 * (q : Int) + (w : Int)).toNat) := by
          rcases h95 with a | a
          · exact a.2
          · exact absurd (by rw [h1, h8]; omega) a.1
        clear h95
        rw [ekk]
        refine g_astore dX6_handGrouped_98 (by decide) rfl ?_
        refine g_aload_n dX6_handGrouped_100 rfl ?_
        refine g_iload dX6_handGrouped_101 rfl ?_
        refine g_iload_n dX6_handGrouped_103 rfl ?_
        refine g_callvI dX6_handGrouped_104 tm_6_314 rfl ⟨rfl, rfl⟩ rfl (Nat.le_of_ble_eq_true rfl) (cc6_inGroup (by omega) (haC σ w p q) hf hg2 _ _) (fun z104 s104 h104 => ?_)
        obtain ⟨h104, e104⟩ := h104
        obtain rfl := e104
        rw [h1, Int.toNat_natCast, h1k] at h104
        refine g_if_eq (tgt := 129) dX6_handGrouped_107 (by decide) (fun c107 => ?_) (fun c107 => ?_)
        · refine g_iinc dX6_handGrouped_129 (by decide) rfl ⟨by omega, by omega⟩ (show (q : Int) + 1 = ((q + 1 : Nat) : Int) from by omega) rfl ?_
          refine g_goto (tgt := 82) dX6_handGrouped_132 (by decide) ?_
          first
            | exact ih _
            | (have hgf : ¬ hI σ 1 q = hI σ 1 p := by
                 intro h
                 rcases h104 with ⟨a, _⟩ | ⟨_, a⟩
                 · exact absurd (a.symm.trans c107) (by decide)
                 · exact a ⟨by omega, by omega, h⟩
               simp only [if_neg hgf, if_neg (show ¬ sgC σ p q = true from fun h => hgf (of_decide_eq_true h)), Nat.add_zero] at ih
               exact ih _)
        · have hgt : hI σ 1 q = hI σ 1 p := by
            rcases h104 with ⟨_, a⟩ | ⟨a, _⟩
            · exact a.2.2
            · exact absurd a c107
          clear h104
          simp only [if_pos hgt, if_pos (show sgC σ p q = true from decide_eq_true hgt)] at ih
          refine g_aload dX6_handGrouped_110 rfl ?_
          refine g_ifnull (tgt := 129) dX6_handGrouped_112 (by decide) (fun c112 => ?_) (fun c112 => ?_)
          · exact absurd c112 (by simp)
          · refine g_aload dX6_handGrouped_115 rfl ?_
            refine g_iconst dX6_handGrouped_117 ⟨by decide, by decide⟩ ?_
            refine g_aload_n dX6_handGrouped_118 rfl ?_
            refine g_getI dX6_handGrouped_119 tf_6_94 rfl rfl ?_
            rw [h9]
            refine g_iload_n dX6_handGrouped_122 rfl ?_
            refine g_callvV dX6_handGrouped_123 tm_6_164 rfl ⟨rfl, rfl⟩ (lc_s hsq) (Nat.le_of_ble_eq_true rfl) (cc3_add (by omega) (haC σ w p q) hf hsq 1 (hI σ 0 9) (p : Int) (by rw [e2]; omega)) (fun s123 h123 => ?_)
            obtain rfl := h123
            refine g_iinc dX6_handGrouped_126 (by decide) rfl ⟨by omega, by omega⟩ (show (cntB (sgC σ p) q : Int) + 1 = ((cntB (sgC σ p) q + 1 : Nat) : Int) from by omega) rfl ?_
            refine g_iinc dX6_handGrouped_129 (by decide) rfl ⟨by omega, by omega⟩ (show (q : Int) + 1 = ((q + 1 : Nat) : Int) from by omega) rfl ?_
            refine g_goto (tgt := 82) dX6_handGrouped_132 (by decide) ?_
            first
              | exact ih _
              | (have hgf : ¬ hI σ 1 q = hI σ 1 p := by
                   intro h
                   rcases h104 with ⟨a, _⟩ | ⟨_, a⟩
                   · exact absurd (a.symm.trans c107) (by decide)
                   · exact a ⟨by omega, by omega, h⟩
                 simp only [if_neg hgf, if_neg (show ¬ sgC σ p q = true from fun h => hgf (of_decide_eq_true h)), Nat.add_zero] at ih
                 exact ih _)
  have loop1 : ∀ (m q : Nat) (o5 o6 : Option am_V), q + m = P → (∀ a, a < q → hI σ 1 a = hI σ 1 p → ¬ (0 ≤ lmC σ (10 * a + w) ∨ 0 < shC σ (10 * a + w))) → am_Go lc d 6 7 1 cX6_handGrouped 22 [some (vR (some 0)), some (vI (p : Int)), some (vI (w : Int)), some (vI (hI σ 1 p)), some (vI (q : Int)), o5, o6] [] σ (qI fun z s => (∃ q, q < P ∧ hI σ 1 q = hI σ 1 p ∧ (0 ≤ lmC σ (10 * q + w) ∨ 0 < shC σ (10 * q + w))) ∧ z = -3 ∧ s = uI σ 8 3 (hI σ 8 3 + 1) ∨ ¬ (∃ q, q < P ∧ hI σ 1 q = hI σ 1 p ∧ (0 ≤ lmC σ (10 * q + w) ∨ 0 < shC σ (10 * q + w))) ∧ z = (cntB (sgC σ p) P : Int) ∧ s = uI (haC σ w p P) 0 10 (hI σ 0 10 + (cntB (sgC σ p) P : Int))) := by
    intro m
    induction m with
    | zero =>
      intro q o5 o6 hq hall
      have hq2 : q = P := by omega
      subst hq2
      refine g_iload dX6_handGrouped_22 rfl ?_
      refine g_aload_n dX6_handGrouped_24 rfl ?_
      refine g_getI dX6_handGrouped_25 tf_6_51 rfl rfl ?_
      refine g_icmp_ge (tgt := 76) dX6_handGrouped_28 (by decide) (fun c28 => ?_) (fun c28 => ?_)
      · refine g_iconst dX6_handGrouped_76 ⟨by decide, by decide⟩ ?_
        refine g_istore dX6_handGrouped_77 (by decide) rfl ?_
        refine g_iconst dX6_handGrouped_79 ⟨by decide, by decide⟩ ?_
        refine g_istore dX6_handGrouped_80 (by decide) rfl ?_
        exact loop2 (fun ⟨a, h1, h2, h3⟩ => hall a h1 h2 h3) q 0 _ (by omega)
      · exfalso; omega
    | succ m ih =>
      intro q o5 o6 hq hall
      have ih := fun o5 => ih (q + 1) o5 o6 (by omega)
      have h1 := hP
      have h8 : hI σ 0 8 = hI σ 0 8 := rfl
      have hsq : 10 * q + w < 60 := by omega
      have ekk : (10 * (q : Int) + (w : Int)).toNat = 10 * q + w := by omega
      have hg2 := hg
      have nx : (hI σ 1 q = hI σ 1 p → ¬ (0 ≤ lmC σ (10 * q + w) ∨ 0 < shC σ (10 * q + w))) → ∀ a, a < q + 1 → hI σ 1 a = hI σ 1 p → ¬ (0 ≤ lmC σ (10 * a + w) ∨ 0 < shC σ (10 * a + w)) := by
        intro hn a ha
        rcases Nat.lt_or_ge a q with g | g
        · exact hall a g
        · have : a = q := by omega
          rw [this]; exact hn
      refine g_iload dX6_handGrouped_22 rfl ?_
      refine g_aload_n dX6_handGrouped_24 rfl ?_
      refine g_getI dX6_handGrouped_25 tf_6_51 rfl rfl ?_
      refine g_icmp_ge (tgt := 76) dX6_handGrouped_28 (by decide) (fun c28 => ?_) (fun c28 => ?_)
      · exfalso; omega
      · refine g_aload_n dX6_handGrouped_31 rfl ?_
        refine g_iload dX6_handGrouped_32 rfl ?_
        refine g_iload_n dX6_handGrouped_34 rfl ?_
        refine g_callvR dX6_handGrouped_35 tm_6_83 rfl ⟨rfl, rfl⟩ rfl (Nat.le_of_ble_eq_true rfl) (cc6_sheetOf (by omega) σ hf hg2 _ _) (fun z35 s35 h35 => ?_)
        obtain ⟨h35, e35⟩ := h35
        obtain rfl := e35.symm
        obtain rfl : z35 = some (47 + 4 * (10 * (q : Int) + (w : Int)).toNat) := by
          rcases h35 with a | a
          · exact a.2
          · exact absurd (by rw [h1, h8]; omega) a.1
        clear h35
        rw [ekk]
        refine g_astore dX6_handGrouped_38 (by decide) rfl ?_
        refine g_aload_n dX6_handGrouped_40 rfl ?_
        refine g_iload dX6_handGrouped_41 rfl ?_
        refine g_iload_n dX6_handGrouped_43 rfl ?_
        refine g_callvI dX6_handGrouped_44 tm_6_314 rfl ⟨rfl, rfl⟩ rfl (Nat.le_of_ble_eq_true rfl) (cc6_inGroup (by omega) σ hf hg _ _) (fun z44 s44 h44 => ?_)
        obtain ⟨h44, e44⟩ := h44
        obtain rfl := e44.symm
        rw [hP, Int.toNat_natCast] at h44
        refine g_if_eq (tgt := 70) dX6_handGrouped_47 (by decide) (fun c47 => ?_) (fun c47 => ?_)
        · refine g_iinc dX6_handGrouped_70 (by decide) rfl ⟨by omega, by omega⟩ (show (q : Int) + 1 = ((q + 1 : Nat) : Int) from by omega) rfl ?_
          refine g_goto (tgt := 22) dX6_handGrouped_73 (by decide) ?_
          first
            | exact ih _ (nx (fun h => by
                rcases h57 with ⟨a, _⟩ | ⟨_, a⟩
                · exact absurd (a.symm.trans c60) (by decide)
                · exact a))
            | exact ih _ (nx (fun h => by
                rcases h44 with ⟨a, _⟩ | ⟨_, a⟩
                · exact absurd (a.symm.trans c47) (by decide)
                · exact absurd ⟨by omega, by omega, h⟩ a))
        · refine g_aload dX6_handGrouped_50 rfl ?_
          refine g_ifnull (tgt := 70) dX6_handGrouped_52 (by decide) (fun c52 => ?_) (fun c52 => ?_)
          · exact absurd c52 (by simp)
          · refine g_aload dX6_handGrouped_55 rfl ?_
            refine g_callvI dX6_handGrouped_57 tm_6_217 rfl ⟨rfl, rfl⟩ (lc_s hsq) (Nat.le_of_ble_eq_true rfl) (cc3_isMarked (by omega) σ hf hsq) (fun z57 s57 h57 => ?_)
            obtain ⟨h57, e57⟩ := h57
            obtain rfl := e57.symm
            refine g_if_eq (tgt := 70) dX6_handGrouped_60 (by decide) (fun c60 => ?_) (fun c60 => ?_)
            · refine g_iinc dX6_handGrouped_70 (by decide) rfl ⟨by omega, by omega⟩ (show (q : Int) + 1 = ((q + 1 : Nat) : Int) from by omega) rfl ?_
              refine g_goto (tgt := 22) dX6_handGrouped_73 (by decide) ?_
              first
                | exact ih _ (nx (fun h => by
                    rcases h57 with ⟨a, _⟩ | ⟨_, a⟩
                    · exact absurd (a.symm.trans c60) (by decide)
                    · exact a))
                | exact ih _ (nx (fun h => by
                    rcases h44 with ⟨a, _⟩ | ⟨_, a⟩
                    · exact absurd (a.symm.trans c47) (by decide)
                    · exact absurd ⟨by omega, by omega, h⟩ a))
            · refine g_aload_n dX6_handGrouped_63 rfl ?_
              refine g_bipush dX6_handGrouped_64 (by decide) ?_
              refine g_callvI dX6_handGrouped_66 tm_6_55 rfl ⟨rfl, rfl⟩ rfl (Nat.le_of_ble_eq_true rfl) (cc6_refuse (by omega) σ hf _ ⟨by omega, by omega⟩ hrf) (fun z66 s66 h66 => ?_)
              obtain ⟨rfl, rfl⟩ := h66
              refine g_ireturn dX6_handGrouped_69 (Or.inl rfl) ⟨_, rfl, ?_⟩
              refine Or.inl ⟨⟨q, by omega, ?_, ?_⟩, rfl, rfl⟩
              · rcases h44 with ⟨_, a⟩ | ⟨a, _⟩
                · exact a.2.2
                · exact absurd a c47
              · rcases h57 with ⟨_, a⟩ | ⟨a, _⟩
                · exact a
                · exact absurd a c60
  refine g_aload_n dX6_handGrouped_0 rfl ?_
  refine g_iload_n dX6_handGrouped_1 rfl ?_
  refine g_callvI dX6_handGrouped_2 tm_6_59 rfl ⟨rfl, rfl⟩ rfl (Nat.le_of_ble_eq_true rfl) (cc6_isPupil (by omega) σ hf _ (by omega)) (fun z2 s2 h2 => ?_)
  obtain ⟨h2, e2⟩ := h2
  obtain rfl := e2.symm
  refine g_if_eq (tgt := 17) dX6_handGrouped_5 (by decide) (fun c5 => ?_) (fun c5 => ?_)
  · exfalso; omega
  · refine g_aload_n dX6_handGrouped_8 rfl ?_
    refine g_getA dX6_handGrouped_9 tf_6_9 rfl rfl (crf hf rfl) ?_
    refine g_iload_n dX6_handGrouped_12 rfl ?_
    refine g_ialdN (p) dX6_handGrouped_13 rfl (by omega) (by omega) ?_
    refine g_goto (tgt := 18) dX6_handGrouped_14 (by decide) ?_
    refine g_istore_n dX6_handGrouped_18 (by decide) rfl ?_
    refine g_iconst dX6_handGrouped_19 ⟨by decide, by decide⟩ ?_
    refine g_istore dX6_handGrouped_20 (by decide) rfl ?_
    exact loop1 P 0 none none (by omega) (fun a ha => absurd ha (Nat.not_lt_zero _))
