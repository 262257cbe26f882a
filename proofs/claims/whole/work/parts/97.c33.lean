/-! THE CLASS: 'arrange' -/
theorem cntB_eq {c c' : Nat → Bool} : ∀ n, (∀ j, j < n → c' j = c j) → cntB c' n = cntB c n
  | 0, _ => rfl
  | n + 1, he => by rw [cntB_s, cntB_s, cntB_eq n (fun j hj => he j (by omega)), he n (by omega)]
theorem cntB_add {c c' : Nat → Bool} {r : Nat} : ∀ n, r < n → (∀ j, j < n → j ≠ r → c' j = c j) → c r = false → c' r = true → cntB c' n = cntB c n + 1
  | 0, h, _, _, _ => absurd h (Nat.not_lt_zero r)
  | n + 1, h, he, h1, h2 => by
    rw [cntB_s, cntB_s]
    by_cases e : r = n
    · subst e
      have : cntB c' r = cntB c r := cntB_eq r (fun j hj => he j (by omega) (by omega))
      rw [this, h1, h2]
      rfl
    · rw [he n (by omega) (fun z => e z.symm), cntB_add n (by omega) (fun j hj hjr => he j (by omega) hjr) h1 h2]
      omega
/-- 'arrange' under way: p holds the rules that are placed, m of them -/
def AIv (σ : am_HS) (B n : Nat) (ed : Nat → Nat → Prop) (p m : Nat) (s : am_HS) : Prop := (s.2 = σ.2 ∧ ∀ o j, o ≠ 23 + 9 * B → o ≠ 24 + 9 * B → hI s o j = hI σ o j) ∧ p < 4194304 ∧ (∀ a, hasB p a → 10 ≤ a ∧ a < 10 + n) ∧ m = cntB (fun r => p.testBit (10 + r)) n ∧ (∀ r, r < n → hasB p (10 + r) → BLs s B n ed r ∧ ∃ i : Nat, i < m ∧ hI s (24 + 9 * B) i = (r : Int)) ∧ (∀ i : Nat, i < m → ∃ r : Nat, r < n ∧ hI s (24 + 9 * B) i = (r : Int) ∧ ∀ r' : Nat, r' < n → ed r r' → ∃ j : Nat, j < i ∧ hI s (24 + 9 * B) j = (r' : Int))
theorem AIv.lt {σ s : am_HS} {B n p m r : Nat} {ed : Nat → Nat → Prop} (h : AIv σ B n ed p m s) (hr : r < n) (hno : ¬ hasB p (10 + r)) : m < n := by
  have hf0 : p.testBit (10 + r) = false := by
    unfold hasB at hno
    cases hx : p.testBit (10 + r)
    · rfl
    · exact absurd hx hno
  have := cntB_lt (c := fun r => p.testBit (10 + r)) (c' := fun _ => true) n (fun _ _ _ => rfl) ⟨r, hr, rfl, hf0⟩
  rw [cntB_all] at this
  have := h.2.2.2.1
  omega
theorem AIv.put {σ s : am_HS} {B n p m r G : Nat} {ed : Nat → Nat → Prop} (h : AIv σ B n ed p m s) (hn : n ≤ 12) (hr : r < n) (hno : ¬ hasB p (10 + r)) (hrd : ∀ r', r' < n → ed r r' → hasB p (10 + r')) (hG : G < 4194304) (hG2 : ∀ a, hasB G a ↔ blN n ed r a) : m < n ∧ AIv σ B n ed (p ||| 2 ^ (10 + r)) (m + 1) (uI (uI s (23 + 9 * B) r (G : Int)) (24 + 9 * B) m (r : Int)) := by
  obtain ⟨h1, h2, h3, h4, h5, h6⟩ := h
  have hf0 : p.testBit (10 + r) = false := by
    unfold hasB at hno
    cases hx : p.testBit (10 + r)
    · rfl
    · exact absurd hx hno
  have hlt : m < n := by
    have := cntB_lt (c := fun r => p.testBit (10 + r)) (c' := fun _ => true) n (fun _ _ _ => rfl) ⟨r, hr, rfl, hf0⟩
    rw [cntB_all] at this
    omega
  have hcnt : cntB (fun q => (p ||| 2 ^ (10 + r)).testBit (10 + q)) n = cntB (fun q => p.testBit (10 + q)) n + 1 := by
    refine cntB_add (r := r) n hr (fun j _ hj => ?_) hf0 ?_
    · show (p ||| 2 ^ (10 + r)).testBit (10 + j) = p.testBit (10 + j)
      rw [Nat.testBit_or, Nat.testBit_two_pow]
      have : decide (10 + r = 10 + j) = false := decide_eq_false (by omega)
      rw [this]
      simp
    · show (p ||| 2 ^ (10 + r)).testBit (10 + r) = true
      rw [Nat.testBit_or, Nat.testBit_two_pow]
      simp
  have hor : ∀ q, hasB (p ||| 2 ^ (10 + r)) (10 + q) ↔ hasB p (10 + q) ∨ q = r := fun q => by
    rw [or_bit, pow_bit]
    constructor
    · exact fun h => h.elim Or.inl (fun e => Or.inr (by omega))
    · exact fun h => h.elim Or.inl (fun e => Or.inr (by omega))
  have ho : ∀ i, i < m → hI (uI (uI s (23 + 9 * B) r (G : Int)) (24 + 9 * B) m (r : Int)) (24 + 9 * B) i = hI s (24 + 9 * B) i := fun i hi => by
    rw [hI_uI_n (by omega), hI_uI_n (by omega)]
  have hm : hI (uI (uI s (23 + 9 * B) r (G : Int)) (24 + 9 * B) m (r : Int)) (24 + 9 * B) m = (r : Int) := hI_uI_e ⟨by omega, by omega⟩
  refine ⟨hlt, ⟨h1.1, fun o j z1 z2 => ?_⟩, or_lt22 h2 (pow_lt22 (by omega)), fun a ha => ?_, by rw [hcnt]; omega, fun q hq hqp => ?_, fun i hi => ?_⟩
  · rw [hI_uI_n (by omega), hI_uI_n (by omega)]
    exact h1.2 o j z1 z2
  · rcases (or_bit _ _ _).mp ha with h | h
    · exact h3 a h
    · rw [pow_bit] at h
      omega
  · by_cases e : q = r
    · subst e
      refine ⟨⟨G, ?_, hG, hG2⟩, m, by omega, hm⟩
      rw [hI_uI_n (by omega), hI_uI_e ⟨by omega, by omega⟩]
    · have hq2 : hasB p (10 + q) := ((hor q).mp hqp).elim id (fun z => absurd z e)
      obtain ⟨⟨g, g1, g2⟩, i, i1, i2⟩ := h5 q hq hq2
      refine ⟨⟨g, ?_, g2⟩, i, by omega, (ho i i1).trans i2⟩
      rw [hI_uI_n (by omega), hI_uI_n (by omega)]
      exact g1
  · by_cases e : i = m
    · subst e
      refine ⟨r, hr, hm, fun r' r1 r2 => ?_⟩
      obtain ⟨_, j, j1, j2⟩ := h5 r' r1 (hrd r' r1 r2)
      exact ⟨j, j1, (ho j j1).trans j2⟩
    · obtain ⟨q, q1, q2, q3⟩ := h6 i (by omega)
      refine ⟨q, q1, (ho i (by omega)).trans q2, fun r' r1 r2 => ?_⟩
      obtain ⟨j, j1, j2⟩ := q3 r' r1 r2
      exact ⟨j, j1, (ho j (by omega)).trans j2⟩
/-- a rule all of whose names are placed, while not all rules are -/
theorem ready_ex {n p : Nat} {ed : Nat → Nat → Prop} {ρ : Nat → Nat} (hρ : ∀ r r', r < n → r' < n → ed r r' → ρ r' < ρ r) : ∀ (k r : Nat), ρ r ≤ k → r < n → ¬ hasB p (10 + r) → ∃ q, q < n ∧ ¬ hasB p (10 + q) ∧ ∀ r', r' < n → ed q r' → hasB p (10 + r') := by
  intro k
  induction k with
  | zero =>
    intro r hk hr hno
    exact ⟨r, hr, hno, fun r' r1 r2 => absurd (hρ r r' hr r1 r2) (by omega)⟩
  | succ k ih =>
    intro r hk hr hno
    by_cases h : ∃ r', r' < n ∧ ed r r' ∧ ¬ hasB p (10 + r')
    · obtain ⟨r', r1, r2, r3⟩ := h
      have := hρ r r' hr r1 r2
      exact ih r' (by omega) r1 r3
    · refine ⟨r, hr, hno, fun r' r1 r2 => ?_⟩
      by_cases q : hasB p (10 + r')
      · exact q
      · exact absurd ⟨r', r1, r2, q⟩ h
theorem cc0_arrI {d : Nat} (hd : 3 ≤ d) (σ : am_HS) {b : Nat} (hf : σ.2.2 = cH b) {B : Nat} (hB : B < 2) (N : Nat) (hN : hI σ (6 + B) 0 = (N : Int)) (hN12 : N ≤ 12) {ed : Nat → Nat → Prop} (hNB : NBk σ B N ed) (hed : ∀ r b, r < N → ed r b → b < N ∨ (12 ≤ b ∧ b < 22)) (p0 rd : Nat) (Q : Option am_V → am_HS → Prop) (hq : ∀ (p m : Nat) (s : am_HS) (o4 o5 o6 : Option am_V), AIv σ B N ed p m s → (∀ a, hasB p0 a → hasB p a) → (∀ q, q < N → (∀ r', r' < N → ed q r' → hasB p0 (10 + r')) → hasB p (10 + q)) → am_Go lc d 0 7 0 cX0_arrange 129 [some (vR (some (6 + B))), some (vI (p : Int)), some (vI (m : Int)), some (vI (rd : Int)), o4, o5, o6] [] s Q) : ∀ (k r p m : Nat) (s : am_HS) (o5 o6 : Option am_V), r + k = N → AIv σ B N ed p m s → (∀ a, hasB p0 a → hasB p a) → (∀ q, q < r → (∀ r', r' < N → ed q r' → hasB p0 (10 + r')) → hasB p (10 + q)) → am_Go lc d 0 7 0 cX0_arrange 17 [some (vR (some (6 + B))), some (vI (p : Int)), some (vI (m : Int)), some (vI (rd : Int)), some (vI (r : Int)), o5, o6] [] s Q := by
  intro k
  induction k with
  | zero =>
    intro r p m s o5 o6 hr hA hp hdn
    have e : r = N := by omega
    subst e
    have e6 : hI s (6 + B) 0 = (r : Int) := (hA.1.2 _ _ (by omega) (by omega)).trans hN
    refine g_iload dX0_arrange_17 rfl ?_
    refine g_aload_n dX0_arrange_19 rfl ?_
    refine g_getI dX0_arrange_20 tf_0_39 (lc_b hB) rfl ?_
    refine g_icmp_ge (tgt := 129) dX0_arrange_23 (by decide) (fun c23 => ?_) (fun c23 => ?_)
    · exact hq p m s _ _ _ hA hp hdn
    · exfalso; omega
  | succ k ih =>
    intro r p m s o5 o6 hr hA hp hdn
    have hrN : r < N := by omega
    have hfs : s.2.2 = cH b := (congrArg Prod.snd hA.1.1).trans hf
    have e6 : hI s (6 + B) 0 = (N : Int) := (hA.1.2 _ _ (by omega) (by omega)).trans hN
    obtain ⟨g, g1, g2, g3⟩ := hNB r (by omega)
    have e22 : hI s (22 + 9 * B) r = (g : Int) := (hA.1.2 _ _ (by omega) (by omega)).trans g1
    have hp22 := hA.2.1
    have hpw := pow_lt22 (m := 10 + r) (by omega)
    have hg10 : ∀ r', r' < N → (hasB g (10 + r') ↔ ed r r') := fun r' h => by
      rw [g3, phB_r]
      exact ⟨fun z => z.2, fun z => ⟨by omega, z⟩⟩
    have hrdy : and3 (g : Int) (p : Int) = 0 ↔ ∀ r', r' < N → ed r r' → hasB p (10 + r') := by
      rw [and3_0 g2]
      constructor
      · intro h r' r1 r2
        exact h (10 + r') (by omega) ((hg10 r' r1).mpr r2)
      · intro h a ha hga
        obtain ⟨a1, a2⟩ := (g3 a).mp hga
        have e : a = 10 + phB a := by unfold phB; rw [if_neg (by omega)]; omega
        rcases hed r _ hrN a2 with z | z
        · rw [e]; exact h _ z a2
        · have : phB a < 12 := by unfold phB; rw [if_neg (by omega)]; omega
          omega
    have hand := bt_and0 (p := p) (r := r) hp22 (by omega)
    have hm12 : m ≤ N := by rw [hA.2.2.2.1]; exact cntB_le _ _
    have hskip : (¬ (∀ r', r' < N → ed r r' → hasB p (10 + r')) ∨ hasB p (10 + r)) → ∀ q, q < r + 1 → (∀ r', r' < N → ed q r' → hasB p0 (10 + r')) → hasB p (10 + q) := fun hno q hqr hq2 => by
      by_cases e : q = r
      · subst e
        rcases hno with h | h
        · exact absurd (fun r' r1 r2 => hp _ (hq2 r' r1 r2)) h
        · exact h
      · exact hdn q (by omega) hq2
    refine g_iload dX0_arrange_17 rfl ?_
    refine g_aload_n dX0_arrange_19 rfl ?_
    refine g_getI dX0_arrange_20 tf_0_39 (lc_b hB) rfl ?_
    refine g_icmp_ge (tgt := 129) dX0_arrange_23 (by decide) (fun c23 => ?_) (fun c23 => ?_)
    · exfalso; omega
    · refine g_iload dX0_arrange_26 rfl ?_
      refine g_bipush dX0_arrange_28 (by decide) ?_
      refine g_icmp_ge (tgt := 129) dX0_arrange_30 (by decide) (fun c30 => ?_) (fun c30 => ?_)
      · exfalso; omega
      · refine g_iconst dX0_arrange_33 ⟨by decide, by decide⟩ ?_
        refine g_bipush dX0_arrange_34 (by decide) ?_
        refine g_iload dX0_arrange_36 rfl ?_
        refine g_iadd dX0_arrange_38 rfl ⟨by omega, by omega⟩ ?_
        rw [show (10 : Int) + (r : Int) = ((10 + r : Nat) : Int) from by omega]
        refine g_ishl dX0_arrange_39 (bt_shl1 (by omega)) ?_
        refine g_istore dX0_arrange_40 (by decide) rfl ?_
        refine g_aload_n dX0_arrange_42 rfl ?_
        refine g_getA dX0_arrange_43 tf_0_21 (lc_b hB) rfl (crb6 hfs hB) ?_
        refine g_iload dX0_arrange_46 rfl ?_
        refine g_ialdN (r) dX0_arrange_48 (lcb6 hB) (by omega) (by omega) ?_
        rw [e22]
        refine g_sipush dX0_arrange_49 (by decide) ?_
        refine g_iand dX0_arrange_52 rfl ?_
        refine g_iload_n dX0_arrange_53 rfl ?_
        refine g_iconst dX0_arrange_54 ⟨by decide, by decide⟩ ?_
        refine g_ixor dX0_arrange_55 rfl ?_
        refine g_iand dX0_arrange_56 rfl ?_
        refine g_if_ne (tgt := 64) dX0_arrange_57 (by decide) (fun c57 => ?_) (fun c57 => ?_)
        · have hR := fun z => c57 (hrdy.mpr z)
          clear c57
          refine g_iconst dX0_arrange_64 ⟨by decide, by decide⟩ ?_
          refine g_istore dX0_arrange_65 (by decide) rfl ?_
          refine g_iload dX0_arrange_67 rfl ?_
          refine g_if_eq (tgt := 123) dX0_arrange_69 (by decide) (fun c69 => ?_) (fun c69 => ?_)
          · refine g_iinc dX0_arrange_123 (by decide) rfl ⟨by omega, by omega⟩ (show (r : Int) + 1 = ((r + 1 : Nat) : Int) from by omega) rfl ?_
            refine g_goto (tgt := 17) dX0_arrange_126 (by decide) ?_
            exact ih (r + 1) p m s _ _ (by omega) hA hp (hskip (Or.inl hR))
          · exfalso; omega
        · have hR := hrdy.mp (Decidable.not_not.mp c57)
          clear c57
          refine g_iconst dX0_arrange_60 ⟨by decide, by decide⟩ ?_
          refine g_goto (tgt := 65) dX0_arrange_61 (by decide) ?_
          refine g_istore dX0_arrange_65 (by decide) rfl ?_
          refine g_iload dX0_arrange_67 rfl ?_
          refine g_if_eq (tgt := 123) dX0_arrange_69 (by decide) (fun c69 => ?_) (fun c69 => ?_)
          · exfalso; omega
          · refine g_iload_n dX0_arrange_72 rfl ?_
            refine g_iload dX0_arrange_73 rfl ?_
            refine g_iand dX0_arrange_75 rfl ?_
            refine g_if_ne (tgt := 123) dX0_arrange_76 (by decide) (fun c76 => ?_) (fun c76 => ?_)
            · have hP : hasB p (10 + r) := Classical.byContradiction fun z => c76 (hand.mpr z)
              clear c76
              refine g_iinc dX0_arrange_123 (by decide) rfl ⟨by omega, by omega⟩ (show (r : Int) + 1 = ((r + 1 : Nat) : Int) from by omega) rfl ?_
              refine g_goto (tgt := 17) dX0_arrange_126 (by decide) ?_
              exact ih (r + 1) p m s _ _ (by omega) hA hp (hskip (Or.inr hP))
            · have hP := hand.mp (Decidable.not_not.mp c76)
              clear c76
              have hmlt := hA.lt hrN hP
              refine g_iload_n dX0_arrange_79 rfl ?_
              refine g_if_lt (tgt := 123) dX0_arrange_80 (by decide) (fun c80 => ?_) (fun c80 => ?_)
              · exfalso; omega
              · refine g_iload_n dX0_arrange_83 rfl ?_
                refine g_bipush dX0_arrange_84 (by decide) ?_
                refine g_icmp_ge (tgt := 123) dX0_arrange_86 (by decide) (fun c86 => ?_) (fun c86 => ?_)
                · exfalso; omega
                · refine g_aload_n dX0_arrange_89 rfl ?_
                  refine g_getA dX0_arrange_90 tf_0_24 (lc_b hB) rfl (crb7 hfs hB) ?_
                  refine g_iload dX0_arrange_93 rfl ?_
                  refine g_aload_n dX0_arrange_95 rfl ?_
                  refine g_aload_n dX0_arrange_96 rfl ?_
                  refine g_getA dX0_arrange_97 tf_0_21 (lc_b hB) rfl (crb6 hfs hB) ?_
                  refine g_iload dX0_arrange_100 rfl ?_
                  refine g_ialdN (r) dX0_arrange_102 (lcb6 hB) (by omega) (by omega) ?_
                  rw [e22]
                  refine g_callvI dX0_arrange_103 tm_0_65 rfl ⟨rfl, rfl⟩ (lc_b hB) (Nat.le_of_ble_eq_true rfl) (cc0_withBelow (by omega) s hfs hB N e6 hN12 g g2 (ed := ed) (fun r1 z1 z2 => (hA.2.2.2.2.1 r1 z1 (hR r1 z1 ((hg10 r1 z1).mp z2))).1)) (fun z103 s103 h103 => ?_)
                  obtain ⟨⟨G, h103, G2, G3⟩, e103⟩ := h103
                  obtain rfl := e103.symm
                  subst h103
                  refine g_iastN (r) dX0_arrange_106 (lcb7 hB) (by omega) (by omega) ?_
                  refine g_aload_n dX0_arrange_107 rfl ?_
                  refine g_getA dX0_arrange_108 tf_0_27 (lc_b hB) rfl (crb8 hfs hB) ?_
                  refine g_iload_n dX0_arrange_111 rfl ?_
                  refine g_iload dX0_arrange_112 rfl ?_
                  refine g_iastN (m) dX0_arrange_114 (lcb8 hB) (by omega) (by omega) ?_
                  refine g_iinc dX0_arrange_115 (by decide) rfl ⟨by omega, by omega⟩ (show (m : Int) + 1 = ((m + 1 : Nat) : Int) from by omega) rfl ?_
                  refine g_iload_n dX0_arrange_118 rfl ?_
                  refine g_iload dX0_arrange_119 rfl ?_
                  refine g_ior dX0_arrange_121 (bt_or (by omega) (by omega)) ?_
                  refine g_istore_n dX0_arrange_122 (by decide) rfl ?_
                  refine g_iinc dX0_arrange_123 (by decide) rfl ⟨by omega, by omega⟩ (show (r : Int) + 1 = ((r + 1 : Nat) : Int) from by omega) rfl ?_
                  refine g_goto (tgt := 17) dX0_arrange_126 (by decide) ?_
                  have hGr : ∀ a, hasB G a ↔ blN N ed r a := fun a => by
                    rw [G3 a, blN_step hN12 hrN a, g3 a]
                    constructor
                    · rintro (h | ⟨r', r1, r2, r3⟩)
                      · exact Or.inl h
                      · exact Or.inr ⟨r', r1, (hg10 r' r1).mp r2, r3⟩
                    · rintro (h | ⟨r', r1, r2, r3⟩)
                      · exact Or.inl h
                      · exact Or.inr ⟨r', r1, (hg10 r' r1).mpr r2, r3⟩
                  have y2 := (hA.put hN12 hrN hP hR G2 hGr).2
                  refine ih (r + 1) _ _ _ _ _ (by omega) y2 (fun a ha => (or_bit _ _ _).mpr (Or.inl (hp a ha))) (fun q hqr hq2 => (or_bit _ _ _).mpr ?_)
                  by_cases e : q = r
                  · exact Or.inr ((pow_bit _ _).mpr (by omega))
                  · exact Or.inl (hdn q (by omega) hq2)
/-- the rows that 'arrange' leaves -/
def ARs (s : am_HS) (B n : Nat) (ed : Nat → Nat → Prop) : Prop := (∀ r, r < n → BLs s B n ed r) ∧ ∀ i : Nat, i < n → ∃ r : Nat, r < n ∧ hI s (24 + 9 * B) i = (r : Int) ∧ ∀ r' : Nat, r' < n → ed r r' → ∃ j : Nat, j < i ∧ hI s (24 + 9 * B) j = (r' : Int)
def ARo (s : am_HS) (B n : Nat) : Prop := ∀ r : Nat, r < n → ∃ i : Nat, i < n ∧ hI s (24 + 9 * B) i = (r : Int)
theorem cc0_arrange {D : Nat} (hD : 4 ≤ D) (σ : am_HS) {b : Nat} (hf : σ.2.2 = cH b) {B : Nat} (hB : B < 2) (N : Nat) (hN : hI σ (6 + B) 0 = (N : Int)) (hN12 : N ≤ 12) {ed : Nat → Nat → Prop} (hNB : NBk σ B N ed) (hed : ∀ r b, r < N → ed r b → b < N ∨ (12 ≤ b ∧ b < 22)) {ρ : Nat → Nat} (hρ : ∀ r r', r < N → r' < N → ed r r' → ρ r' < ρ r) : am_Do lc D mX0_arrange σ [vR (some (6 + B))] (qV fun s => (s.2 = σ.2 ∧ ∀ o j, o ≠ 23 + 9 * B → o ≠ 24 + 9 * B → hI s o j = hI σ o j) ∧ ARs s B N ed ∧ ARo s B N) := by
  obtain ⟨d, rfl⟩ : ∃ d, D = d + 1 := ⟨D - 1, by omega⟩
  refine am_enter rfl rfl (Nat.le_of_ble_eq_true rfl) ?_
  have lp : ∀ (k rd p m : Nat) (s : am_HS) (o4 o5 o6 : Option am_V), rd + k = N → rd ≤ m → AIv σ B N ed p m s → am_Go lc d 0 7 0 cX0_arrange 6 [some (vR (some (6 + B))), some (vI (p : Int)), some (vI (m : Int)), some (vI (rd : Int)), o4, o5, o6] [] s (qV fun s => (s.2 = σ.2 ∧ ∀ o j, o ≠ 23 + 9 * B → o ≠ 24 + 9 * B → hI s o j = hI σ o j) ∧ ARs s B N ed ∧ ARo s B N) := by
    intro k
    induction k with
    | zero =>
      intro rd p m s o4 o5 o6 hrd hrm hA
      have e : rd = N := by omega
      subst e
      have e6 : hI s (6 + B) 0 = (rd : Int) := (hA.1.2 _ _ (by omega) (by omega)).trans hN
      have hmN : m = rd := by
        have := cntB_le (fun r => p.testBit (10 + r)) rd
        have := hA.2.2.2.1
        omega
      have hall : ∀ r, r < rd → hasB p (10 + r) := fun r hr => by
        by_cases q : hasB p (10 + r)
        · exact q
        · exfalso
          have hq : p.testBit (10 + r) = false := by
            unfold hasB at q
            cases hx : p.testBit (10 + r)
            · rfl
            · exact absurd hx q
          have := cntB_lt (c := fun r => p.testBit (10 + r)) (c' := fun _ => true) rd (fun _ _ _ => rfl) ⟨r, hr, rfl, hq⟩
          rw [cntB_all] at this
          have := hA.2.2.2.1
          omega
      refine g_iload_n dX0_arrange_6 rfl ?_
      refine g_aload_n dX0_arrange_7 rfl ?_
      refine g_getI dX0_arrange_8 tf_0_39 (lc_b hB) rfl ?_
      refine g_icmp_ge (tgt := 135) dX0_arrange_11 (by decide) (fun c11 => ?_) (fun c11 => ?_)
      · refine g_return dX0_arrange_135 rfl ⟨rfl, ?_⟩
        refine ⟨hA.1, ⟨fun r hr => (hA.2.2.2.2.1 r hr (hall r hr)).1, fun i hi => hA.2.2.2.2.2 i (by omega)⟩, fun r hr => ?_⟩
        obtain ⟨i, i1, i2⟩ := (hA.2.2.2.2.1 r hr (hall r hr)).2
        exact ⟨i, by omega, i2⟩
      · exfalso; omega
    | succ k ih =>
      intro rd p m s o4 o5 o6 hrd hrm hA
      have e6 : hI s (6 + B) 0 = (N : Int) := (hA.1.2 _ _ (by omega) (by omega)).trans hN
      refine g_iload_n dX0_arrange_6 rfl ?_
      refine g_aload_n dX0_arrange_7 rfl ?_
      refine g_getI dX0_arrange_8 tf_0_39 (lc_b hB) rfl ?_
      refine g_icmp_ge (tgt := 135) dX0_arrange_11 (by decide) (fun c11 => ?_) (fun c11 => ?_)
      · exfalso; omega
      · refine g_iconst dX0_arrange_14 ⟨by decide, by decide⟩ ?_
        refine g_istore dX0_arrange_15 (by decide) rfl ?_
        refine cc0_arrI (by omega) σ hf hB N hN hN12 hNB hed p rd _ (fun p1 m1 s1 o4 o5 o6 hA1 hp1 hd1 => ?_) N 0 p m s _ _ (by omega) hA (fun a ha => ha) (fun q hq => by omega)
        have hm1 : rd + 1 ≤ m1 := by
          by_cases h : ∃ r, r < N ∧ ¬ hasB p (10 + r)
          · obtain ⟨r, r1, r2⟩ := h
            obtain ⟨q, q1, q2, q3⟩ := ready_ex (p := p) hρ (ρ r) r (Nat.le_refl _) r1 r2
            have hq1 := hd1 q q1 q3
            have := cntB_lt (c := fun r => p.testBit (10 + r)) (c' := fun r => p1.testBit (10 + r)) N (fun j _ hj => hp1 _ hj) ⟨q, q1, hq1, by
              unfold hasB at q2
              cases hx : p.testBit (10 + q)
              · rfl
              · exact absurd hx q2⟩
            have := hA.2.2.2.1
            have := hA1.2.2.2.1
            omega
          · have : cntB (fun r => p1.testBit (10 + r)) N = cntB (fun _ => true) N := cntB_eq N (fun j hj => by
              by_cases q : hasB p (10 + j)
              · exact hp1 _ q
              · exact absurd ⟨j, hj, q⟩ h)
            rw [cntB_all] at this
            have := hA1.2.2.2.1
            omega
        refine g_iinc dX0_arrange_129 (by decide) rfl ⟨by omega, by omega⟩ (show (rd : Int) + 1 = ((rd + 1 : Nat) : Int) from by omega) rfl ?_
        refine g_goto (tgt := 6) dX0_arrange_132 (by decide) ?_
        exact ih (rd + 1) p1 m1 s1 _ _ _ (by omega) hm1 hA1
  refine g_iconst dX0_arrange_0 ⟨by decide, by decide⟩ ?_
  refine g_istore_n dX0_arrange_1 (by decide) rfl ?_
  refine g_iconst dX0_arrange_2 ⟨by decide, by decide⟩ ?_
  refine g_istore_n dX0_arrange_3 (by decide) rfl ?_
  refine g_iconst dX0_arrange_4 ⟨by decide, by decide⟩ ?_
  refine g_istore_n dX0_arrange_5 (by decide) rfl ?_
  refine lp N 0 0 0 σ _ _ _ (by omega) (Nat.le_refl _) ⟨⟨rfl, fun _ _ _ _ => rfl⟩, by decide, fun a ha => ?_, ?_, fun r _ hr => ?_, fun i hi => absurd hi (Nat.not_lt_zero i)⟩
  · unfold hasB at ha
    rw [Nat.zero_testBit] at ha
    cases ha
  · have : ∀ n, cntB (fun r => (0 : Nat).testBit (10 + r)) n = 0 := fun n => by
      induction n with
      | zero => rfl
      | succ n ih => rw [cntB_s, ih, Nat.zero_testBit]; rfl
    exact (this N).symm
  · unfold hasB at hr
    rw [Nat.zero_testBit] at hr
    cases hr
