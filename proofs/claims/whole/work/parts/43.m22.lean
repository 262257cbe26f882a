/-! THE REFERENCE: handing in -/
theorem FrM.k {σ s : am_HS} (h : FrM σ s) {o j : Nat} (hk : keepM o j) : hI s o j = hI σ o j := h.2 o j hk
theorem keepA {o j : Nat} (h1 : 1 ≤ o) (h2 : o ≤ 27) : keepM o j := Or.inl ⟨h1, h2⟩
theorem keepF {j : Nat} (h : j ≤ 7 ∨ j = 23 ∨ j = 42) : keepM 0 j := Or.inr ⟨rfl, h⟩
theorem FrM_rf {σ s : am_HS} (f : FrM σ s) (k : Nat) : FrM (uI σ 1 k (hI σ 1 k + 1)) (uI s 1 k (hI s 1 k + 1)) := by
  rw [f.k (o := 1) (j := k) (keepA (by decide) (by decide))]
  exact FrM_put f 1 k _
theorem FrM_hand {σ s : am_HS} (f : FrM σ s) (p w t : Nat) (b : Int) : FrM (handM σ p w t b) (handM s p w t b) := by
  unfold handM
  rw [f.k (o := 0) (j := 3) (keepF (by decide)), f.k (o := 0) (j := 4) (keepF (by decide)), f.k (o := 10) (j := (10 * p + w)) (keepA (by decide) (by decide))]
  exact FrM_put (FrM_put (FrM_put (FrM_put f _ _ _) _ _ _) _ _ _) _ _ _
/-- how many below n -/
def cntB (c : Nat → Bool) : Nat → Nat
  | 0 => 0
  | n + 1 => cntB c n + (if c n = true then 1 else 0)
theorem cntB_le (c : Nat → Bool) : ∀ n, cntB c n ≤ n
  | 0 => Nat.le_refl _
  | n + 1 => by
    have := cntB_le c n
    unfold cntB
    split <;> omega
/-- the whole group hands in -/
def hallM (σ : am_HS) (w p : Nat) : Nat → am_HS
  | 0 => σ
  | q + 1 => if hI σ 2 q = hI σ 2 p then handM (hallM σ w p q) q w 0 (p : Int) else hallM σ w p q
def sgM (σ : am_HS) (p : Nat) : Nat → Bool := fun q => decide (hI σ 2 q = hI σ 2 p)
theorem hallM_s (σ : am_HS) (w p q : Nat) : hallM σ w p (q + 1) = if hI σ 2 q = hI σ 2 p then handM (hallM σ w p q) q w 0 (p : Int) else hallM σ w p q := rfl
theorem cntB_s (c : Nat → Bool) (n : Nat) : cntB c (n + 1) = cntB c n + (if c n = true then 1 else 0) := rfl
theorem r15 {σ : am_HS} (hb : rgM σ) (k : Nat) : 0 ≤ hI σ 15 k ∧ hI σ 15 k ≤ 1 := hb 15 k
theorem handM_o {σ : am_HS} {p w t : Nat} {b : Int} {o k : Nat} (h : ¬ (o = 0 ∧ k = 4) ∧ o ≠ 10 ∧ o ≠ 11 ∧ o ≠ 12) : hI (handM σ p w t b) o k = hI σ o k := by
  unfold handM
  rw [hI_uI_n (by omega), hI_uI_n (by omega), hI_uI_n (by omega), hI_uI_n (by omega)]
theorem hallM_o {σ : am_HS} {w p : Nat} {o k : Nat} (h : ¬ (o = 0 ∧ k = 4) ∧ o ≠ 10 ∧ o ≠ 11 ∧ o ≠ 12) : ∀ q, hI (hallM σ w p q) o k = hI σ o k
  | 0 => rfl
  | q + 1 => by
    unfold hallM
    split
    · rw [handM_o h, hallM_o h q]
    · exact hallM_o h q
theorem hallM_f {σ : am_HS} {w p : Nat} : ∀ q, (hallM σ w p q).2.2 = σ.2.2
  | 0 => rfl
  | q + 1 => by
    unfold hallM
    split
    · exact hallM_f q
    · exact hallM_f q
theorem hI_uI_x {σ : am_HS} {o k : Nat} {x : Int} (hx : rI x) (a b : Nat) : hI (uI σ o k x) a b = if a = o ∧ b = k then x else hI σ a b := by
  by_cases h : a = o ∧ b = k
  · rw [if_pos h, h.1, h.2, hI_uI_e hx]
  · rw [if_neg h, hI_uI_n h]
theorem handM_4 {σ : am_HS} {p w t : Nat} {b : Int} (h : rI (hI σ 0 4 + 1)) : hI (handM σ p w t b) 0 4 = hI σ 0 4 + 1 := by
  unfold handM
  exact hI_uI_e h
theorem handM_10 {σ : am_HS} {p w t : Nat} {b : Int} {k : Nat} (h : k ≠ (10 * p + w)) : hI (handM σ p w t b) 10 k = hI σ 10 k := by
  unfold handM
  rw [hI_uI_n (by omega), hI_uI_n (by omega), hI_uI_n (by omega), hI_uI_n (by omega)]
theorem hallM_10 {σ : am_HS} {w p : Nat} {k : Nat} : ∀ q, (∀ a, a < q → k ≠ 10 * a + w) → hI (hallM σ w p q) 10 k = hI σ 10 k
  | 0, _ => rfl
  | q + 1, h => by
    unfold hallM
    split
    · rw [handM_10 (h q (by omega)), hallM_10 q (fun a ha => h a (by omega))]
    · exact hallM_10 q (fun a ha => h a (by omega))
theorem hallM_4 {σ : am_HS} {w p : Nat} (h : 0 ≤ hI σ 0 4 ∧ hI σ 0 4 ≤ 100000) : ∀ q, q ≤ 6 → hI (hallM σ w p q) 0 4 = hI σ 0 4 + (cntB (sgM σ p) q : Int)
  | 0, _ => by show hI σ 0 4 = hI σ 0 4 + 0; omega
  | q + 1, hq => by
    have ih := hallM_4 (w := w) (p := p) h q (by omega)
    have hc := cntB_le (sgM σ p) q
    unfold hallM cntB sgM
    split
    · rename_i e
      rw [handM_4 (by rw [ih]; exact ⟨by omega, by omega⟩), ih, if_pos (decide_eq_true e)]
      unfold sgM
      omega
    · rename_i e
      rw [ih, if_neg (by simp [e])]
      unfold sgM
      omega
theorem handM_rg {σ : am_HS} (hb : rgM σ) {p w t : Nat} (b : Nat) (hbb : b < 6) (ht : 0 ≤ hI σ 0 3 ∧ hI σ 0 3 ≤ 100000) (hm : hI σ 10 (10 * p + w) < 100000) (hh : 0 ≤ hI σ 0 4 ∧ hI σ 0 4 ≤ 200000) : rgM (handM σ p w t (b : Int)) := by
  have h10 : 0 ≤ hI σ 10 (10 * p + w) ∧ hI σ 10 (10 * p + w) ≤ 100000 := hb 10 _
  unfold handM
  refine (((hb.u ?_).u ?_).u ?_).u ?_
  · exact ht
  · exact ⟨by show (0 : Int) ≤ _; omega, by show _ ≤ (5 : Int); omega⟩
  · exact ⟨by show (0 : Int) ≤ _; omega, by show _ ≤ (100000 : Int); omega⟩
  · exact ⟨by show (-2147483648 : Int) ≤ _; omega, by show _ ≤ (2147483647 : Int); omega⟩
theorem hallM_rg {σ : am_HS} (hb : rgM σ) {w p : Nat} (hp : p < 6) (ht : 0 ≤ hI σ 0 3 ∧ hI σ 0 3 ≤ 100000) (hm : ∀ k, hI σ 10 k < 100000) (hh : 0 ≤ hI σ 0 4 ∧ hI σ 0 4 ≤ 100000) : ∀ q, q ≤ 6 → rgM (hallM σ w p q)
  | 0, _ => hb
  | q + 1, hq => by
    have ih := hallM_rg hb (w := w) hp ht hm hh q (by omega)
    have h4 := hallM_4 (w := w) (p := p) hh q (by omega)
    have hc := cntB_le (sgM σ p) q
    unfold hallM
    split
    · refine handM_rg ih p hp ?_ ?_ (by omega)
      · rw [hallM_o (by omega)]; exact ht
      · rw [hallM_10 q (fun a ha => by omega)]; exact hm _
    · exact ih

theorem cm_handsAll {D : Nat} (hD : 4 ≤ D) (σ : am_HS) (hf : σ.2.2 = mH) (hb : rgM σ) (hg : GM σ) (hh : 0 ≤ hI σ 0 4 ∧ hI σ 0 4 ≤ 90000) (ht : 0 ≤ hI σ 0 3 ∧ hI σ 0 3 ≤ 100000) (hmx : ∀ k, hI σ 10 k < 90000) (P : Nat) (hP : hI σ 0 1 = (P : Int)) (p w : Nat) (hp : p < P) (hw : w < 10) : am_Do lm D mX7_handsAll σ [vR (some 0), vI (p : Int), vI (w : Int)] (qI fun z s => (∃ q, q < P ∧ hI σ 2 q = hI σ 2 p ∧ 0 ≤ hI σ 13 (3 * (10 * q + w))) ∧ z = -3 ∧ s = uI σ 1 3 (hI σ 1 3 + 1) ∨ ¬ (∃ q, q < P ∧ hI σ 2 q = hI σ 2 p ∧ 0 ≤ hI σ 13 (3 * (10 * q + w))) ∧ z = (cntB (sgM σ p) P : Int) ∧ s = hallM σ w p P) := by
  obtain ⟨d, rfl⟩ : ∃ d, D = d + 1 := ⟨D - 1, by omega⟩
  refine am_enter rfl rfl (Nat.le_of_ble_eq_true rfl) ?_
  obtain ⟨hg1, hg2, hrf⟩ := id hg
  have hP6 : P ≤ 6 := by omega
  have loop2 : ¬ (∃ q, q < P ∧ hI σ 2 q = hI σ 2 p ∧ 0 ≤ hI σ 13 (3 * (10 * q + w))) → ∀ (m q : Nat), q + m = P → am_Go lm d 7 5 1 cX7_handsAll 58 [some (vR (some 0)), some (vI (p : Int)), some (vI (w : Int)), some (vI (cntB (sgM σ p) q : Int)), some (vI (q : Int))] [] (hallM σ w p q) (qI fun z s => (∃ q, q < P ∧ hI σ 2 q = hI σ 2 p ∧ 0 ≤ hI σ 13 (3 * (10 * q + w))) ∧ z = -3 ∧ s = uI σ 1 3 (hI σ 1 3 + 1) ∨ ¬ (∃ q, q < P ∧ hI σ 2 q = hI σ 2 p ∧ 0 ≤ hI σ 13 (3 * (10 * q + w))) ∧ z = (cntB (sgM σ p) P : Int) ∧ s = hallM σ w p P) := by
    intro hno m
    induction m with
    | zero =>
      intro q hq
      have hq2 : q = P := by omega
      subst hq2
      have hf2 := (hallM_f (w := w) (p := p) (σ := σ) q).trans hf
      have h1 : hI (hallM σ w p q) 0 1 = (q : Int) := (hallM_o (by omega) q).trans hP
      refine g_iload dX7_handsAll_58 rfl ?_
      refine g_aload_n dX7_handsAll_60 rfl ?_
      refine g_getI dX7_handsAll_61 tf_7_137 rfl rfl ?_
      refine g_icmp_ge (tgt := 104) dX7_handsAll_64 (by decide) (fun c64 => ?_) (fun c64 => ?_)
      · refine g_iload_n dX7_handsAll_104 rfl ?_
        refine g_ireturn dX7_handsAll_105 (Or.inl rfl) ⟨_, rfl, ?_⟩
        exact Or.inr ⟨hno, rfl, rfl⟩
      · exfalso; omega
    | succ m ih =>
      intro q hq
      have ih := ih (q + 1) (by omega)
      have hf2 := (hallM_f (w := w) (p := p) (σ := σ) q).trans hf
      have h1 : hI (hallM σ w p q) 0 1 = (P : Int) := (hallM_o (by omega) q).trans hP
      have h2 : ∀ k, hI (hallM σ w p q) 2 k = hI σ 2 k := fun k => hallM_o (by omega) q
      have h4 := hallM_4 (w := w) (p := p) ⟨hh.1, by omega⟩ q (by omega)
      have hc := cntB_le (sgM σ p) q
      have hb2 := hallM_rg hb (w := w) (p := p) (by omega) ht (fun k => by have := hmx k; omega) ⟨hh.1, by omega⟩ q (by omega)
      rw [hallM_s, cntB_s] at ih
      refine g_iload dX7_handsAll_58 rfl ?_
      refine g_aload_n dX7_handsAll_60 rfl ?_
      refine g_getI dX7_handsAll_61 tf_7_137 rfl rfl ?_
      refine g_icmp_ge (tgt := 104) dX7_handsAll_64 (by decide) (fun c64 => ?_) (fun c64 => ?_)
      · exfalso; omega
      · refine g_aload_n dX7_handsAll_67 rfl ?_
        refine g_getA dX7_handsAll_68 tf_7_13 rfl rfl (mrf hf2 rfl) ?_
        refine g_iload dX7_handsAll_71 rfl ?_
        refine g_ialdN (q) dX7_handsAll_73 rfl (by omega) (by omega) ?_
        refine g_aload_n dX7_handsAll_74 rfl ?_
        refine g_getA dX7_handsAll_75 tf_7_13 rfl rfl (mrf hf2 rfl) ?_
        refine g_iload_n dX7_handsAll_78 rfl ?_
        refine g_ialdN (p) dX7_handsAll_79 rfl (by omega) (by omega) ?_
        rw [h2, h2]
        refine g_icmp_eq (tgt := 86) dX7_handsAll_80 (by decide) (fun c80 => ?_) (fun c80 => ?_)
        · rw [if_pos c80, if_pos (show sgM σ p q = true from decide_eq_true c80)] at ih
          refine g_aload_n dX7_handsAll_86 rfl ?_
          refine g_iload dX7_handsAll_87 rfl ?_
          refine g_iload_n dX7_handsAll_89 rfl ?_
          refine g_iconst dX7_handsAll_90 ⟨by decide, by decide⟩ ?_
          refine g_iload_n dX7_handsAll_91 rfl ?_
          refine g_callvV dX7_handsAll_92 tm_7_369 rfl ⟨rfl, rfl⟩ rfl (Nat.le_of_ble_eq_true rfl) (cm_hands (by omega) (hallM σ w p q) hf2 hb2 q w (by omega) hw 0 (by omega) (p : Int) (by omega)) (fun s92 h92 => ?_)
          obtain rfl := h92
          refine g_iinc dX7_handsAll_95 (by decide) rfl ⟨by omega, by omega⟩ (show (cntB (sgM σ p) q : Int) + 1 = ((cntB (sgM σ p) q + 1 : Nat) : Int) from by omega) rfl ?_
          refine g_iinc dX7_handsAll_98 (by decide) rfl ⟨by omega, by omega⟩ (show (q : Int) + 1 = ((q + 1 : Nat) : Int) from by omega) rfl ?_
          refine g_goto (tgt := 58) dX7_handsAll_101 (by decide) ?_
          exact ih
        · rw [if_neg c80, if_neg (show ¬ sgM σ p q = true by unfold sgM; simp [c80])] at ih
          refine g_goto (tgt := 98) dX7_handsAll_83 (by decide) ?_
          refine g_iinc dX7_handsAll_98 (by decide) rfl ⟨by omega, by omega⟩ (show (q : Int) + 1 = ((q + 1 : Nat) : Int) from by omega) rfl ?_
          refine g_goto (tgt := 58) dX7_handsAll_101 (by decide) ?_
          exact ih
  have loop1 : ∀ (m q : Nat), q + m = P → (∀ a, a < q → hI σ 2 a = hI σ 2 p → ¬ 0 ≤ hI σ 13 (3 * (10 * a + w))) → am_Go lm d 7 5 1 cX7_handsAll 2 [some (vR (some 0)), some (vI (p : Int)), some (vI (w : Int)), some (vI (q : Int)), none] [] σ (qI fun z s => (∃ q, q < P ∧ hI σ 2 q = hI σ 2 p ∧ 0 ≤ hI σ 13 (3 * (10 * q + w))) ∧ z = -3 ∧ s = uI σ 1 3 (hI σ 1 3 + 1) ∨ ¬ (∃ q, q < P ∧ hI σ 2 q = hI σ 2 p ∧ 0 ≤ hI σ 13 (3 * (10 * q + w))) ∧ z = (cntB (sgM σ p) P : Int) ∧ s = hallM σ w p P) := by
    intro m
    induction m with
    | zero =>
      intro q hq hall
      have hq2 : q = P := by omega
      subst hq2
      have hno : ¬ (∃ a, a < q ∧ hI σ 2 a = hI σ 2 p ∧ 0 ≤ hI σ 13 (3 * (10 * a + w))) := fun ⟨a, h1, h2, h3⟩ => hall a h1 h2 h3
      refine g_iload_n dX7_handsAll_2 rfl ?_
      refine g_aload_n dX7_handsAll_3 rfl ?_
      refine g_getI dX7_handsAll_4 tf_7_137 rfl rfl ?_
      refine g_icmp_ge (tgt := 53) dX7_handsAll_7 (by decide) (fun c7 => ?_) (fun c7 => ?_)
      · refine g_iconst dX7_handsAll_53 ⟨by decide, by decide⟩ ?_
        refine g_istore_n dX7_handsAll_54 (by decide) rfl ?_
        refine g_iconst dX7_handsAll_55 ⟨by decide, by decide⟩ ?_
        refine g_istore dX7_handsAll_56 (by decide) rfl ?_
        exact loop2 hno q 0 (by omega)
      · exfalso; omega
    | succ m ih =>
      intro q hq hall
      have ih := ih (q + 1) (by omega)
      refine g_iload_n dX7_handsAll_2 rfl ?_
      refine g_aload_n dX7_handsAll_3 rfl ?_
      refine g_getI dX7_handsAll_4 tf_7_137 rfl rfl ?_
      refine g_icmp_ge (tgt := 53) dX7_handsAll_7 (by decide) (fun c7 => ?_) (fun c7 => ?_)
      · exfalso; omega
      · refine g_aload_n dX7_handsAll_10 rfl ?_
        refine g_getA dX7_handsAll_11 tf_7_13 rfl rfl (mrf hf rfl) ?_
        refine g_iload_n dX7_handsAll_14 rfl ?_
        refine g_ialdN (q) dX7_handsAll_15 rfl (by omega) (by omega) ?_
        refine g_aload_n dX7_handsAll_16 rfl ?_
        refine g_getA dX7_handsAll_17 tf_7_13 rfl rfl (mrf hf rfl) ?_
        refine g_iload_n dX7_handsAll_20 rfl ?_
        refine g_ialdN (p) dX7_handsAll_21 rfl (by omega) (by omega) ?_
        refine g_icmp_ne (tgt := 47) dX7_handsAll_22 (by decide) (fun c22 => ?_) (fun c22 => ?_)
        · refine g_iinc dX7_handsAll_47 (by decide) rfl ⟨by omega, by omega⟩ (show (q : Int) + 1 = ((q + 1 : Nat) : Int) from by omega) rfl ?_
          refine g_goto (tgt := 2) dX7_handsAll_50 (by decide) ?_
          refine ih (fun a ha => ?_)
          rcases Nat.lt_or_ge a q with h | h
          · exact hall a h
          · have : a = q := by omega
            subst this
            intro h1
            first
              | exact absurd h1 c22
              | omega
        · refine g_aload_n dX7_handsAll_25 rfl ?_
          refine g_getA dX7_handsAll_26 tf_7_46 rfl rfl (mrf hf rfl) ?_
          refine g_iconst dX7_handsAll_29 ⟨by decide, by decide⟩ ?_
          refine g_iload_n dX7_handsAll_30 rfl ?_
          refine g_iload_n dX7_handsAll_31 rfl ?_
          refine g_callsI dX7_handsAll_32 tm_7_159 rfl ⟨Nat.le_of_ble_eq_true rfl, rfl, rfl⟩ (Nat.le_of_ble_eq_true rfl) (cm_spot (by omega) _ _ _ ⟨by omega, by omega⟩ ⟨by omega, by omega⟩) (fun z32 s32 h32 => ?_)
          obtain ⟨rfl, e32⟩ := h32
          obtain rfl := e32.symm
          refine g_imul dX7_handsAll_35 rfl ⟨by omega, by omega⟩ ?_
          refine g_ialdN (3 * (10 * q + w)) dX7_handsAll_36 rfl (by omega) (by omega) ?_
          refine g_if_lt (tgt := 47) dX7_handsAll_37 (by decide) (fun c37 => ?_) (fun c37 => ?_)
          · refine g_iinc dX7_handsAll_47 (by decide) rfl ⟨by omega, by omega⟩ (show (q : Int) + 1 = ((q + 1 : Nat) : Int) from by omega) rfl ?_
            refine g_goto (tgt := 2) dX7_handsAll_50 (by decide) ?_
            refine ih (fun a ha => ?_)
            rcases Nat.lt_or_ge a q with h | h
            · exact hall a h
            · have : a = q := by omega
              subst this
              intro h1
              first
                | exact absurd h1 c22
                | omega
          · refine g_aload_n dX7_handsAll_40 rfl ?_
            refine g_bipush dX7_handsAll_41 (by decide) ?_
            refine g_callvI dX7_handsAll_43 tm_7_133 rfl ⟨rfl, rfl⟩ rfl (Nat.le_of_ble_eq_true rfl) (cm_refuse (by omega) σ hf _ ⟨by omega, by omega⟩ hg.2.2) (fun z43 s43 h43 => ?_)
            obtain ⟨rfl, rfl⟩ := h43
            refine g_ireturn dX7_handsAll_46 (Or.inl rfl) ⟨_, rfl, ?_⟩
            exact Or.inl ⟨⟨q, by omega, Classical.not_not.mp c22, by omega⟩, rfl, rfl⟩
  refine g_iconst dX7_handsAll_0 ⟨by decide, by decide⟩ ?_
  refine g_istore_n dX7_handsAll_1 (by decide) rfl ?_
  exact loop1 P 0 (by omega) (fun a ha => by omega)
theorem FrM_hall {σ s : am_HS} (f : FrM σ s) (w p : Nat) : ∀ q, FrM (hallM σ w p q) (hallM s w p q)
  | 0 => f
  | q + 1 => by
    have ih := FrM_hall f w p q
    unfold hallM
    rw [f.k (o := 2) (j := q) (keepA (by decide) (by decide)), f.k (o := 2) (j := p) (keepA (by decide) (by decide))]
    split
    · exact FrM_hand ih q w 0 _
    · exact ih
/-- a hand-in is refused -/
def hdN (σ : am_HS) (opn : Prop) (P p w : Nat) : Prop := hI σ 15 (10 * p + w) = 1 ∨ ¬ opn ∨ (hI σ 3 w = 0 ∧ 0 ≤ hI σ 13 (3 * (10 * p + w))) ∨ (hI σ 3 w = 1 ∧ (∃ q, q < P ∧ hI σ 2 q = hI σ 2 p ∧ 0 ≤ hI σ 13 (3 * (10 * q + w)))) ∨ (hI σ 3 w = 2 ∧ (hI σ 10 (10 * p + w) = 3 ∨ (0 < hI σ 10 (10 * p + w) ∧ hI σ 13 (3 * (10 * p + w) + (hI σ 10 (10 * p + w)).toNat - 1) < 0))) ∨ (hI σ 3 w = 3 ∧ 0 < hI σ 10 (10 * p + w))
/-- what it makes -/
def hdS (σ : am_HS) (P p w : Nat) : Int × am_HS := if hI σ 3 w = 1 then ((cntB (sgM σ p) P : Int), hallM σ w p P) else (1, handM σ p w (if hI σ 3 w = 2 then (hI σ 10 (10 * p + w)).toNat else 0) (p : Int))
theorem cm_handT {d : Nat} (hD : 5 ≤ d) (σ : am_HS) (hf : σ.2.2 = mH) (hb : rgM σ) (hg : GM σ) (hh : 0 ≤ hI σ 0 4 ∧ hI σ 0 4 ≤ 90000) (ht : 0 ≤ hI σ 0 3 ∧ hI σ 0 3 ≤ 100000) (hmx : ∀ k, hI σ 10 k < 90000) (P : Nat) (hP : hI σ 0 1 = (P : Int)) (p w : Nat) (hp : p < P) (hmny : hI σ 3 w = 2 → hI σ 10 (10 * p + w) ≤ 3) (hw : w < 10) (opn : Prop) (hex : hI σ 15 (10 * p + w) ≠ 1) (hop : opn) (s : am_HS) (fr : FrM σ s) : am_Go lm d 7 4 1 cX7_hand 53 [some (vR (some 0)), some (vI (p : Int)), some (vI (w : Int)), some (vI (10 * (p : Int) + (w : Int)))] [] s (qI fun z s => hdN σ opn P p w ∧ z = -3 ∧ FrM (uI σ 1 3 (hI σ 1 3 + 1)) s ∨ ¬ hdN σ opn P p w ∧ z = (hdS σ P p w).1 ∧ FrM (hdS σ P p w).2 s) := by
  obtain ⟨hg1, hg2, hrf⟩ := id hg
  have hf0 := hf
  have hf : s.2.2 = mH := fr.1.trans hf0
  have hbs := fr.rg hb
  have e1 : hI s 0 1 = hI σ 0 1 := fr.k (keepF (by decide))
  have e3 : ∀ j, hI s 3 j = hI σ 3 j := fun j => fr.k (keepA (by decide) (by decide))
  have e13 : ∀ j, hI s 13 j = hI σ 13 j := fun j => fr.k (keepA (by decide) (by decide))
  have e10 : ∀ j, hI s 10 j = hI σ 10 j := fun j => fr.k (keepA (by decide) (by decide))
  have er : ∀ k, hI s 1 k = hI σ 1 k := fun k => fr.k (keepA (by decide) (by decide))
  have e04 : hI s 0 4 = hI σ 0 4 := fr.k (keepF (by decide))
  have hrs : ∀ k, k < 8 → 0 ≤ hI s 1 k ∧ hI s 1 k ≤ 100000 := fun k hk => by rw [er]; exact hrf k hk
  have b3 : 0 ≤ hI σ 3 w ∧ hI σ 3 w ≤ 3 := hb 3 w
  have b10 : 0 ≤ hI σ 10 (10 * p + w) ∧ hI σ 10 (10 * p + w) ≤ 100000 := hb 10 _
  have e2 : ∀ j, hI s 2 j = hI σ 2 j := fun j => fr.k (keepA (by decide) (by decide))
  have gS : GM s := ⟨by rw [e1]; exact hg1, by rw [show hI s 0 2 = hI σ 0 2 from fr.k (keepF (by decide))]; exact hg2, hrs⟩
  refine g_aload_n dX7_hand_53 rfl ?_
  refine g_getA dX7_hand_54 tf_7_16 rfl rfl (mrf hf rfl) ?_
  refine g_iload_n dX7_hand_57 rfl ?_
  refine g_ialdN (w) dX7_hand_58 rfl (by omega) (by omega) ?_
  rw [e3]
  by_cases k3 : hI σ 3 w = 3
  · refine g_tsw_out (tgt := 180) dX7_hand_59 (by omega) (by decide) ?_
    refine g_aload_n dX7_hand_180 rfl ?_
    refine g_getA dX7_hand_181 tf_7_37 rfl rfl (mrf hf rfl) ?_
    refine g_iload_n dX7_hand_184 rfl ?_
    refine g_ialdN ((10 * p + w)) dX7_hand_185 rfl (by omega) (by omega) ?_
    rw [e10]
    refine g_if_le (tgt := 196) dX7_hand_186 (by decide) (fun c186 => ?_) (fun c186 => ?_)
    · refine g_aload_n dX7_hand_196 rfl ?_
      refine g_iload_n dX7_hand_197 rfl ?_
      refine g_iload_n dX7_hand_198 rfl ?_
      refine g_iconst dX7_hand_199 ⟨by decide, by decide⟩ ?_
      refine g_iload_n dX7_hand_200 rfl ?_
      refine g_callvV dX7_hand_201 tm_7_369 rfl ⟨rfl, rfl⟩ rfl (Nat.le_of_ble_eq_true rfl) (cm_hands (by omega) s hf hbs p w (by omega) hw 0 (by omega) (p : Int) (by rw [e04]; omega)) (fun s201 h201 => ?_)
      obtain rfl := h201
      refine g_iconst dX7_hand_204 ⟨by decide, by decide⟩ ?_
      refine g_ireturn dX7_hand_205 (Or.inl rfl) ⟨_, rfl, ?_⟩
      first
        | (refine Or.inr ⟨?_, ?_, ?_⟩
           · unfold hdN
             rintro (h | h | h | h | h | h)
             · exact hex h
             · exact h hop
             all_goals omega
           · unfold hdS
             rw [if_neg (by omega)]
           · unfold hdS
             rw [if_neg (by omega)]
             first
               | (rw [if_neg (by omega)]; exact FrM_hand fr p w 0 _)
               | (rw [if_pos k2]; exact FrM_hand fr p w _ _))
    · refine g_aload_n dX7_hand_189 rfl ?_
      refine g_bipush dX7_hand_190 (by decide) ?_
      refine g_callvI dX7_hand_192 tm_7_133 rfl ⟨rfl, rfl⟩ rfl (Nat.le_of_ble_eq_true rfl) (cm_refuse (by omega) s hf _ ⟨by omega, by omega⟩ hrs) (fun z192 s192 h192 => ?_)
      obtain ⟨rfl, rfl⟩ := h192
      refine g_ireturn dX7_hand_195 (Or.inl rfl) ⟨_, rfl, ?_⟩
      first
        | (refine Or.inl ⟨?_, rfl, FrM_rf fr 3⟩
           unfold hdN
           first
             | exact Or.inr (Or.inr (Or.inl ⟨k0, by omega⟩))
             | exact Or.inr (Or.inr (Or.inr (Or.inr (Or.inl ⟨k2, by omega⟩))))
             | exact Or.inr (Or.inr (Or.inr (Or.inr (Or.inr ⟨k3, by omega⟩)))))
  · by_cases k0 : hI σ 3 w = 0
    · refine g_tsw_in (tgt := 84) (off := 25) dX7_hand_59 (by omega) (by rw [k0]; rfl) (by decide) ?_
      refine g_aload_n dX7_hand_84 rfl ?_
      refine g_getA dX7_hand_85 tf_7_46 rfl rfl (mrf hf rfl) ?_
      refine g_iconst dX7_hand_88 ⟨by decide, by decide⟩ ?_
      refine g_iload_n dX7_hand_89 rfl ?_
      refine g_imul dX7_hand_90 rfl ⟨by omega, by omega⟩ ?_
      refine g_ialdN (3 * (10 * p + w)) dX7_hand_91 rfl (by omega) (by omega) ?_
      rw [e13]
      refine g_if_lt (tgt := 102) dX7_hand_92 (by decide) (fun c92 => ?_) (fun c92 => ?_)
      · refine g_aload_n dX7_hand_102 rfl ?_
        refine g_iload_n dX7_hand_103 rfl ?_
        refine g_iload_n dX7_hand_104 rfl ?_
        refine g_iconst dX7_hand_105 ⟨by decide, by decide⟩ ?_
        refine g_iload_n dX7_hand_106 rfl ?_
        refine g_callvV dX7_hand_107 tm_7_369 rfl ⟨rfl, rfl⟩ rfl (Nat.le_of_ble_eq_true rfl) (cm_hands (by omega) s hf hbs p w (by omega) hw 0 (by omega) (p : Int) (by rw [e04]; omega)) (fun s107 h107 => ?_)
        obtain rfl := h107
        refine g_iconst dX7_hand_110 ⟨by decide, by decide⟩ ?_
        refine g_ireturn dX7_hand_111 (Or.inl rfl) ⟨_, rfl, ?_⟩
        first
          | (refine Or.inr ⟨?_, ?_, ?_⟩
             · unfold hdN
               rintro (h | h | h | h | h | h)
               · exact hex h
               · exact h hop
               all_goals omega
             · unfold hdS
               rw [if_neg (by omega)]
             · unfold hdS
               rw [if_neg (by omega)]
               first
                 | (rw [if_neg (by omega)]; exact FrM_hand fr p w 0 _)
                 | (rw [if_pos k2]; exact FrM_hand fr p w _ _))
      · refine g_aload_n dX7_hand_95 rfl ?_
        refine g_bipush dX7_hand_96 (by decide) ?_
        refine g_callvI dX7_hand_98 tm_7_133 rfl ⟨rfl, rfl⟩ rfl (Nat.le_of_ble_eq_true rfl) (cm_refuse (by omega) s hf _ ⟨by omega, by omega⟩ hrs) (fun z98 s98 h98 => ?_)
        obtain ⟨rfl, rfl⟩ := h98
        refine g_ireturn dX7_hand_101 (Or.inl rfl) ⟨_, rfl, ?_⟩
        first
          | (refine Or.inl ⟨?_, rfl, FrM_rf fr 3⟩
             unfold hdN
             first
               | exact Or.inr (Or.inr (Or.inl ⟨k0, by omega⟩))
               | exact Or.inr (Or.inr (Or.inr (Or.inr (Or.inl ⟨k2, by omega⟩))))
               | exact Or.inr (Or.inr (Or.inr (Or.inr (Or.inr ⟨k3, by omega⟩)))))
    · by_cases k1 : hI σ 3 w = 1
      · refine g_tsw_in (tgt := 112) (off := 53) dX7_hand_59 (by omega) (by rw [k1]; rfl) (by decide) ?_
        refine g_aload_n dX7_hand_112 rfl ?_
        refine g_iload_n dX7_hand_113 rfl ?_
        refine g_iload_n dX7_hand_114 rfl ?_
        refine g_callvI dX7_hand_115 tm_7_373 rfl ⟨rfl, rfl⟩ rfl (Nat.le_of_ble_eq_true rfl) (cm_handsAll (by omega) s hf hbs gS (by rw [e04]; exact hh) (by rw [show hI s 0 3 = hI σ 0 3 from fr.k (keepF (by decide))]; exact ht) (fun k => by rw [e10]; exact hmx k) P (e1.trans hP) p w hp hw) (fun z115 s115 h115 => ?_)
        refine g_ireturn dX7_hand_118 (Or.inl rfl) ⟨_, rfl, ?_⟩
        have eg : sgM s p = sgM σ p := by
          funext q
          unfold sgM
          rw [e2, e2]
        rcases h115 with ⟨⟨q, h1, h2, h3⟩, rfl, rfl⟩ | ⟨h1, rfl, rfl⟩
        · refine Or.inl ⟨?_, rfl, FrM_rf fr 3⟩
          unfold hdN
          refine Or.inr (Or.inr (Or.inr (Or.inl ⟨k1, q, h1, ?_, ?_⟩)))
          · rw [← e2, ← e2 p]; exact h2
          · rw [← e13]; exact h3
        · refine Or.inr ⟨?_, ?_, ?_⟩
          · unfold hdN
            rintro (h | h | h | h | h | h)
            · exact hex h
            · exact h hop
            · omega
            · obtain ⟨_, q, g1, g2, g3⟩ := h
              exact h1 ⟨q, g1, by rw [e2, e2]; exact g2, by rw [e13]; exact g3⟩
            · omega
            · omega
          · unfold hdS
            rw [if_pos k1, eg]
          · unfold hdS
            rw [if_pos k1]
            exact FrM_hall fr w p P
      · have k2 : hI σ 3 w = 2 := by omega
        refine g_tsw_in (tgt := 119) (off := 60) dX7_hand_59 (by omega) (by rw [k2]; rfl) (by decide) ?_
        refine g_aload_n dX7_hand_119 rfl ?_
        refine g_getA dX7_hand_120 tf_7_37 rfl rfl (mrf hf rfl) ?_
        refine g_iload_n dX7_hand_123 rfl ?_
        refine g_ialdN ((10 * p + w)) dX7_hand_124 rfl (by omega) (by omega) ?_
        refine g_iconst dX7_hand_125 ⟨by decide, by decide⟩ ?_
        rw [e10]
        refine g_icmp_eq (tgt := 158) dX7_hand_126 (by decide) (fun c126 => ?_) (fun c126 => ?_)
        · refine g_aload_n dX7_hand_158 rfl ?_
          refine g_bipush dX7_hand_159 (by decide) ?_
          refine g_callvI dX7_hand_161 tm_7_133 rfl ⟨rfl, rfl⟩ rfl (Nat.le_of_ble_eq_true rfl) (cm_refuse (by omega) s hf _ ⟨by omega, by omega⟩ hrs) (fun z161 s161 h161 => ?_)
          obtain ⟨rfl, rfl⟩ := h161
          refine g_ireturn dX7_hand_164 (Or.inl rfl) ⟨_, rfl, ?_⟩
          first
            | (refine Or.inl ⟨?_, rfl, FrM_rf fr 3⟩
               unfold hdN
               first
                 | exact Or.inr (Or.inr (Or.inl ⟨k0, by omega⟩))
                 | exact Or.inr (Or.inr (Or.inr (Or.inr (Or.inl ⟨k2, by omega⟩))))
                 | exact Or.inr (Or.inr (Or.inr (Or.inr (Or.inr ⟨k3, by omega⟩)))))
        · refine g_aload_n dX7_hand_129 rfl ?_
          refine g_getA dX7_hand_130 tf_7_37 rfl rfl (mrf hf rfl) ?_
          refine g_iload_n dX7_hand_133 rfl ?_
          refine g_ialdN ((10 * p + w)) dX7_hand_134 rfl (by omega) (by omega) ?_
          rw [e10]
          refine g_if_le (tgt := 165) dX7_hand_135 (by decide) (fun c135 => ?_) (fun c135 => ?_)
          · refine g_aload_n dX7_hand_165 rfl ?_
            refine g_iload_n dX7_hand_166 rfl ?_
            refine g_iload_n dX7_hand_167 rfl ?_
            refine g_aload_n dX7_hand_168 rfl ?_
            refine g_getA dX7_hand_169 tf_7_37 rfl rfl (mrf hf rfl) ?_
            refine g_iload_n dX7_hand_172 rfl ?_
            refine g_ialdN ((10 * p + w)) dX7_hand_173 rfl (by omega) (by omega) ?_
            refine g_iload_n dX7_hand_174 rfl ?_
            rw [e10]
            obtain ⟨t, htt⟩ : ∃ t : Nat, hI σ 10 (10 * p + w) = (t : Int) := ⟨(hI σ 10 (10 * p + w)).toNat, by omega⟩
            have htn : (hI σ 10 (10 * p + w)).toNat = t := by omega
            rw [htt]
            refine g_callvV dX7_hand_175 tm_7_369 rfl ⟨rfl, rfl⟩ rfl (Nat.le_of_ble_eq_true rfl) (cm_hands (by omega) s hf hbs p w (by omega) hw t (by omega) (p : Int) (by rw [e04]; omega)) (fun s175 h175 => ?_)
            obtain rfl := h175
            refine g_iconst dX7_hand_178 ⟨by decide, by decide⟩ ?_
            refine g_ireturn dX7_hand_179 (Or.inl rfl) ⟨_, rfl, ?_⟩
            refine Or.inr ⟨?_, ?_, ?_⟩
            · unfold hdN
              rintro (h | h | h | h | h | h)
              · exact hex h
              · exact h hop
              all_goals omega
            · unfold hdS
              rw [if_neg (by omega)]
            · unfold hdS
              rw [if_neg (by omega), if_pos k2, htn]
              exact FrM_hand fr p w t _
          · refine g_aload_n dX7_hand_138 rfl ?_
            refine g_getA dX7_hand_139 tf_7_46 rfl rfl (mrf hf rfl) ?_
            refine g_iconst dX7_hand_142 ⟨by decide, by decide⟩ ?_
            refine g_iload_n dX7_hand_143 rfl ?_
            refine g_imul dX7_hand_144 rfl ⟨by omega, by omega⟩ ?_
            refine g_aload_n dX7_hand_145 rfl ?_
            refine g_getA dX7_hand_146 tf_7_37 rfl rfl (mrf hf rfl) ?_
            refine g_iload_n dX7_hand_149 rfl ?_
            refine g_ialdN ((10 * p + w)) dX7_hand_150 rfl (by omega) (by omega) ?_
            rw [e10]
            refine g_iadd dX7_hand_151 rfl ⟨by omega, by omega⟩ ?_
            refine g_iconst dX7_hand_152 ⟨by decide, by decide⟩ ?_
            refine g_isub dX7_hand_153 rfl ⟨by omega, by omega⟩ ?_
            refine g_ialdN (3 * (10 * p + w) + (hI σ 10 (10 * p + w)).toNat - 1) dX7_hand_154 rfl (by omega) (by omega) ?_
            rw [e13]
            refine g_if_ge (tgt := 165) dX7_hand_155 (by decide) (fun c155 => ?_) (fun c155 => ?_)
            · refine g_aload_n dX7_hand_165 rfl ?_
              refine g_iload_n dX7_hand_166 rfl ?_
              refine g_iload_n dX7_hand_167 rfl ?_
              refine g_aload_n dX7_hand_168 rfl ?_
              refine g_getA dX7_hand_169 tf_7_37 rfl rfl (mrf hf rfl) ?_
              refine g_iload_n dX7_hand_172 rfl ?_
              refine g_ialdN ((10 * p + w)) dX7_hand_173 rfl (by omega) (by omega) ?_
              refine g_iload_n dX7_hand_174 rfl ?_
              rw [e10]
              obtain ⟨t, htt⟩ : ∃ t : Nat, hI σ 10 (10 * p + w) = (t : Int) := ⟨(hI σ 10 (10 * p + w)).toNat, by omega⟩
              have htn : (hI σ 10 (10 * p + w)).toNat = t := by omega
              rw [htt]
              refine g_callvV dX7_hand_175 tm_7_369 rfl ⟨rfl, rfl⟩ rfl (Nat.le_of_ble_eq_true rfl) (cm_hands (by omega) s hf hbs p w (by omega) hw t (by omega) (p : Int) (by rw [e04]; omega)) (fun s175 h175 => ?_)
              obtain rfl := h175
              refine g_iconst dX7_hand_178 ⟨by decide, by decide⟩ ?_
              refine g_ireturn dX7_hand_179 (Or.inl rfl) ⟨_, rfl, ?_⟩
              refine Or.inr ⟨?_, ?_, ?_⟩
              · unfold hdN
                rintro (h | h | h | h | h | h)
                · exact hex h
                · exact h hop
                all_goals omega
              · unfold hdS
                rw [if_neg (by omega)]
              · unfold hdS
                rw [if_neg (by omega), if_pos k2, htn]
                exact FrM_hand fr p w t _
            · refine g_aload_n dX7_hand_158 rfl ?_
              refine g_bipush dX7_hand_159 (by decide) ?_
              refine g_callvI dX7_hand_161 tm_7_133 rfl ⟨rfl, rfl⟩ rfl (Nat.le_of_ble_eq_true rfl) (cm_refuse (by omega) s hf _ ⟨by omega, by omega⟩ hrs) (fun z161 s161 h161 => ?_)
              obtain ⟨rfl, rfl⟩ := h161
              refine g_ireturn dX7_hand_164 (Or.inl rfl) ⟨_, rfl, ?_⟩
              first
                | (refine Or.inl ⟨?_, rfl, FrM_rf fr 3⟩
                   unfold hdN
                   first
                     | exact Or.inr (Or.inr (Or.inl ⟨k0, by omega⟩))
                     | exact Or.inr (Or.inr (Or.inr (Or.inr (Or.inl ⟨k2, by omega⟩))))
                     | exact Or.inr (Or.inr (Or.inr (Or.inr (Or.inr ⟨k3, by omega⟩)))))
theorem cm_hand {D : Nat} (hD : 775 ≤ D) (σ : am_HS) (hf : σ.2.2 = mH) (hb : rgM σ) (hg : GM σ) {N n : Nat} {lo hi ρ : Nat → Nat} {ev : Nat → Den} {td : TD} (hR : BK N n lo hi ρ ev td σ) {rvl : Nat → Nat → Vl} (hV : ∀ p : Nat, p < 6 → RV n ev (fun w => mtM σ p w (-1)) (rvl p)) (hnd : ∀ w, w < 10 → hI σ 7 w < n) (hh : 0 ≤ hI σ 0 4 ∧ hI σ 0 4 ≤ 90000) (ht : 0 ≤ hI σ 0 3 ∧ hI σ 0 3 ≤ 100000) (hmx : ∀ k, hI σ 10 k < 90000) (hmny : ∀ a b : Nat, a < 6 → b < 10 → hI σ 3 b = 2 → hI σ 10 (10 * a + b) ≤ 3) (P : Nat) (hP : hI σ 0 1 = (P : Int)) (p w : Int) : am_Do lm D mX7_hand σ [vR (some 0), vI p, vI w] (qI fun z s => (¬ (0 ≤ p ∧ p < hI σ 0 1 ∧ 0 ≤ w ∧ w < hI σ 0 2) ∧ z = -1 ∧ s = uI σ 1 1 (hI σ 1 1 + 1)) ∨ ((0 ≤ p ∧ p < hI σ 0 1 ∧ 0 ≤ w ∧ w < hI σ 0 2) ∧ (hdN σ (opS σ (rvl p.toNat) w.toNat) P p.toNat w.toNat ∧ z = -3 ∧ FrM (uI σ 1 3 (hI σ 1 3 + 1)) s ∨ ¬ hdN σ (opS σ (rvl p.toNat) w.toNat) P p.toNat w.toNat ∧ z = (hdS σ P p.toNat w.toNat).1 ∧ FrM (hdS σ P p.toNat w.toNat).2 s))) := by
  obtain ⟨hg1, hg2, hrf⟩ := id hg
  obtain ⟨d, rfl⟩ : ∃ d, D = d + 1 := ⟨D - 1, by omega⟩
  refine am_enter rfl rfl (Nat.le_of_ble_eq_true rfl) ?_
  refine g_aload_n dX7_hand_0 rfl ?_
  refine g_iload_n dX7_hand_1 rfl ?_
  refine g_callvI dX7_hand_2 tm_7_151 rfl ⟨rfl, rfl⟩ rfl (Nat.le_of_ble_eq_true rfl) (cm_isPupil (by omega) σ _) (fun z2 s2 h2 => ?_)
  obtain ⟨h2, e2⟩ := h2
  obtain rfl := e2.symm
  refine g_if_eq (tgt := 16) dX7_hand_5 (by decide) (fun c5 => ?_) (fun c5 => ?_)
  · refine g_aload_n dX7_hand_16 rfl ?_
    refine g_iconst dX7_hand_17 ⟨by decide, by decide⟩ ?_
    refine g_callvI dX7_hand_18 tm_7_133 rfl ⟨rfl, rfl⟩ rfl (Nat.le_of_ble_eq_true rfl) (cm_refuse (by omega) σ hf _ ⟨by omega, by omega⟩ hg.2.2) (fun z18 s18 h18 => ?_)
    obtain ⟨rfl, rfl⟩ := h18
    refine g_ireturn dX7_hand_21 (Or.inl rfl) ⟨_, rfl, ?_⟩
    first
      | exact Or.inl ⟨by omega, rfl, rfl⟩
      | exact Or.inr ⟨hin, Or.inl ⟨Or.inl (by have := r15 hb ((10 * p + w)); omega), rfl, FrM.rf _⟩⟩
      | exact Or.inr ⟨hin, Or.inl ⟨Or.inr (Or.inl (by rcases h40 with ⟨a, b⟩ | ⟨a, b⟩; exact absurd (a.symm.trans (Classical.not_not.mp c43)) (by decide); exact b)), rfl, FrM_rf fr 3⟩⟩
  · refine g_aload_n dX7_hand_8 rfl ?_
    refine g_iload_n dX7_hand_9 rfl ?_
    refine g_callvI dX7_hand_10 tm_7_156 rfl ⟨rfl, rfl⟩ rfl (Nat.le_of_ble_eq_true rfl) (cm_isWork (by omega) σ _) (fun z10 s10 h10 => ?_)
    obtain ⟨h10, e10⟩ := h10
    obtain rfl := e10.symm
    refine g_if_ne (tgt := 22) dX7_hand_13 (by decide) (fun c13 => ?_) (fun c13 => ?_)
    · obtain ⟨p, rfl⟩ : ∃ q : Nat, p = (q : Int) := ⟨p.toNat, by omega⟩
      obtain ⟨w, rfl⟩ : ∃ q : Nat, w = (q : Int) := ⟨w.toNat, by omega⟩
      have hp : p < 6 := by omega
      have hw : w < 10 := by omega
      simp only [Int.toNat_natCast]
      have hin : (0 ≤ (p : Int) ∧ (p : Int) < hI σ 0 1 ∧ 0 ≤ (w : Int) ∧ (w : Int) < hI σ 0 2) := by omega
      refine g_iload_n dX7_hand_22 rfl ?_
      refine g_iload_n dX7_hand_23 rfl ?_
      refine g_callsI dX7_hand_24 tm_7_159 rfl ⟨Nat.le_of_ble_eq_true rfl, rfl, rfl⟩ (Nat.le_of_ble_eq_true rfl) (cm_spot (by omega) _ _ _ ⟨by omega, by omega⟩ ⟨by omega, by omega⟩) (fun z24 s24 h24 => ?_)
      obtain ⟨rfl, e24⟩ := h24
      obtain rfl := e24.symm
      refine g_istore_n dX7_hand_27 (by decide) rfl ?_
      refine g_aload_n dX7_hand_28 rfl ?_
      refine g_getA dX7_hand_29 tf_7_52 rfl rfl (mrf hf rfl) ?_
      refine g_iload_n dX7_hand_32 rfl ?_
      refine g_zaldN ((10 * p + w)) dX7_hand_33 rfl (by omega) (by omega) ?_
      refine g_if_ne (tgt := 46) dX7_hand_34 (by decide) (fun c34 => ?_) (fun c34 => ?_)
      · refine g_aload_n dX7_hand_46 rfl ?_
        refine g_bipush dX7_hand_47 (by decide) ?_
        refine g_callvI dX7_hand_49 tm_7_133 rfl ⟨rfl, rfl⟩ rfl (Nat.le_of_ble_eq_true rfl) (cm_refuse (by omega) _ (by first | exact hf | exact hfs) _ ⟨by omega, by omega⟩ (by first | exact hrf | exact hrs)) (fun z49 s49 h49 => ?_)
        obtain ⟨rfl, rfl⟩ := h49
        refine g_ireturn dX7_hand_52 (Or.inl rfl) ⟨_, rfl, ?_⟩
        first
          | exact Or.inl ⟨by omega, rfl, rfl⟩
          | exact Or.inr ⟨hin, Or.inl ⟨Or.inl (by have := r15 hb ((10 * p + w)); omega), rfl, FrM.rf _⟩⟩
          | exact Or.inr ⟨hin, Or.inl ⟨Or.inr (Or.inl (by rcases h40 with ⟨a, b⟩ | ⟨a, b⟩; exact absurd (a.symm.trans (Classical.not_not.mp c43)) (by decide); exact b)), rfl, FrM_rf fr 3⟩⟩
      · refine g_aload_n dX7_hand_37 rfl ?_
        refine g_iload_n dX7_hand_38 rfl ?_
        refine g_iload_n dX7_hand_39 rfl ?_
        refine g_callvI dX7_hand_40 tm_7_363 rfl ⟨rfl, rfl⟩ rfl (Nat.le_of_ble_eq_true rfl) (cm_isOpen (by omega) σ hf hb hR p w (by omega) (by omega) (hnd w (by omega)) (hV p (by omega))) (fun z40 s40 h40 => ?_)
        obtain ⟨h40, fr⟩ := h40
        have hfs : s40.2.2 = mH := fr.1.trans hf
        have hrs : ∀ k, k < 8 → 0 ≤ hI s40 1 k ∧ hI s40 1 k ≤ 100000 := fun k hk => by rw [fr.k (keepA (by decide) (by decide))]; exact hrf k hk
        refine g_if_ne (tgt := 53) dX7_hand_43 (by decide) (fun c43 => ?_) (fun c43 => ?_)
        · refine am_Go.mono (cm_handT (by clear h40; omega) σ hf hb hg hh ht hmx P hP p w (by clear h40; omega) (hmny p w hp hw) hw (opS σ (rvl p) w) (by have := r15 hb (10 * p + w); clear h40; omega) (by rcases h40 with ⟨a, b⟩ | ⟨a, b⟩; exact b; exact absurd a c43) s40 fr) (fun _ _ ⟨z, h1, h2⟩ => ⟨z, h1, Or.inr ⟨hin, h2⟩⟩)
        · refine g_aload_n dX7_hand_46 rfl ?_
          refine g_bipush dX7_hand_47 (by decide) ?_
          refine g_callvI dX7_hand_49 tm_7_133 rfl ⟨rfl, rfl⟩ rfl (Nat.le_of_ble_eq_true rfl) (cm_refuse (by omega) _ (by first | exact hf | exact hfs) _ ⟨by omega, by omega⟩ (by first | exact hrf | exact hrs)) (fun z49 s49 h49 => ?_)
          obtain ⟨rfl, rfl⟩ := h49
          refine g_ireturn dX7_hand_52 (Or.inl rfl) ⟨_, rfl, ?_⟩
          first
            | exact Or.inl ⟨by omega, rfl, rfl⟩
            | exact Or.inr ⟨hin, Or.inl ⟨Or.inl (by have := r15 hb ((10 * p + w)); omega), rfl, FrM.rf _⟩⟩
            | exact Or.inr ⟨hin, Or.inl ⟨Or.inr (Or.inl (by rcases h40 with ⟨a, b⟩ | ⟨a, b⟩; exact absurd (a.symm.trans (Classical.not_not.mp c43)) (by decide); exact b)), rfl, FrM_rf fr 3⟩⟩
    · refine g_aload_n dX7_hand_16 rfl ?_
      refine g_iconst dX7_hand_17 ⟨by decide, by decide⟩ ?_
      refine g_callvI dX7_hand_18 tm_7_133 rfl ⟨rfl, rfl⟩ rfl (Nat.le_of_ble_eq_true rfl) (cm_refuse (by omega) σ hf _ ⟨by omega, by omega⟩ hg.2.2) (fun z18 s18 h18 => ?_)
      obtain ⟨rfl, rfl⟩ := h18
      refine g_ireturn dX7_hand_21 (Or.inl rfl) ⟨_, rfl, ?_⟩
      first
        | exact Or.inl ⟨by omega, rfl, rfl⟩
        | exact Or.inr ⟨hin, Or.inl ⟨Or.inl (by have := r15 hb ((10 * p + w)); omega), rfl, FrM.rf _⟩⟩
        | exact Or.inr ⟨hin, Or.inl ⟨Or.inr (Or.inl (by rcases h40 with ⟨a, b⟩ | ⟨a, b⟩; exact absurd (a.symm.trans (Classical.not_not.mp c43)) (by decide); exact b)), rfl, FrM_rf fr 3⟩⟩

