/-! THE CLASS: sets of names, what is below -/
theorem i32_ti (x : Int32) : Int32.ofInt x.toInt = x := Int32.ofInt_toInt x
/-- the names of rules in g that are not in p -/
def and3 (g p : Int) : Int := (Int32.ofInt (Int32.ofInt g &&& Int32.ofInt (-1024)).toInt &&& Int32.ofInt (Int32.ofInt p ^^^ Int32.ofInt (-1)).toInt).toInt
theorem b1024 : ∀ i : Nat, i < 32 → (Int32.ofInt (-1024)).toBitVec.getLsbD i = decide (10 ≤ i) := by decide +kernel
theorem bm1 : ∀ i : Nat, i < 32 → (Int32.ofInt (-1)).toBitVec.getLsbD i = true := by decide +kernel
theorem nI_bit (g i : Nat) (hi : i < 32) : (Int32.ofInt (g : Int)).toBitVec.getLsbD i = g.testBit i := by
  rw [bt_n]
  show (BitVec.ofNat 32 g).getLsbD i = _
  rw [BitVec.getLsbD_ofNat]
  simp [hi]
theorem and3_0 {g p : Nat} (hg : g < 4194304) : and3 (g : Int) (p : Int) = 0 ↔ ∀ a, 10 ≤ a → hasB g a → hasB p a := by
  unfold and3
  rw [i32_ti, i32_ti]
  have key : ∀ i, i < 32 → (Int32.ofInt (g : Int) &&& Int32.ofInt (-1024) &&& (Int32.ofInt (p : Int) ^^^ Int32.ofInt (-1))).toBitVec.getLsbD i = (g.testBit i && decide (10 ≤ i) && !p.testBit i) := fun i hi => by
    rw [Int32.toBitVec_and, Int32.toBitVec_and, Int32.toBitVec_xor, BitVec.getLsbD_and, BitVec.getLsbD_and, BitVec.getLsbD_xor, nI_bit g i hi, nI_bit p i hi, b1024 i hi, bm1 i hi]
    cases p.testBit i <;> simp
  constructor
  · intro h a ha hga
    have ha22 := has_lt hg hga
    have h0 : (Int32.ofInt (g : Int) &&& Int32.ofInt (-1024) &&& (Int32.ofInt (p : Int) ^^^ Int32.ofInt (-1))) = 0 := by
      rw [← i32_ti (Int32.ofInt (g : Int) &&& Int32.ofInt (-1024) &&& (Int32.ofInt (p : Int) ^^^ Int32.ofInt (-1))), h]
      rfl
    have hk := key a (by omega)
    rw [h0] at hk
    unfold hasB at hga ⊢
    rw [hga] at hk
    cases hp : p.testBit a
    · rw [hp] at hk
      simp [ha] at hk
    · rfl
  · intro h
    have h0 : (Int32.ofInt (g : Int) &&& Int32.ofInt (-1024) &&& (Int32.ofInt (p : Int) ^^^ Int32.ofInt (-1))).toBitVec = 0#32 := by
      apply BitVec.eq_of_getLsbD_eq
      intro i hi
      rw [key i hi]
      by_cases h10 : 10 ≤ i
      · by_cases hgi : hasB g i
        · have := h i h10 hgi
          unfold hasB at this hgi
          rw [this, hgi]
          simp
        · unfold hasB at hgi
          simp [hgi]
      · simp [h10]
    show (Int32.ofInt (g : Int) &&& Int32.ofInt (-1024) &&& (Int32.ofInt (p : Int) ^^^ Int32.ofInt (-1))).toBitVec.toInt = 0
    rw [h0]
    rfl
theorem bt_and0 {p r : Nat} (hp : p < 4194304) (hr : r < 12) : ((Int32.ofInt (p : Int) &&& Int32.ofInt ((2 ^ (10 + r) : Nat) : Int)).toInt = 0 ↔ ¬ hasB p (10 + r)) := by
  rw [bt_and (by omega)]
  constructor
  · intro h hb
    have h0 : p &&& 2 ^ (10 + r) = 0 := by omega
    have : hasB (p &&& 2 ^ (10 + r)) (10 + r) := by
      unfold hasB at hb ⊢
      rw [Nat.testBit_and, hb, Nat.testBit_two_pow]
      simp
    rw [h0] at this
    unfold hasB at this
    rw [Nat.zero_testBit] at this
    cases this
  · intro h
    have h0 : p &&& 2 ^ (10 + r) = 0 := by
      apply Nat.eq_of_testBit_eq
      intro i
      rw [Nat.testBit_and, Nat.zero_testBit, Nat.testBit_two_pow]
      by_cases e : 10 + r = i
      · subst e
        unfold hasB at h
        simp [h]
      · simp [e]
    rw [h0]
    rfl
/-- all that is below rule r, by names alone -/
def blN (n : Nat) (ed : Nat → Nat → Prop) (r a : Nat) : Prop := a < 22 ∧ rch (fun k b => k < n ∧ ed k b) 22 r (phB a)
def BLs (σ : am_HS) (B n : Nat) (ed : Nat → Nat → Prop) (r : Nat) : Prop := ∃ g : Nat, hI σ (23 + 9 * B) r = (g : Int) ∧ g < 4194304 ∧ ∀ a, hasB g a ↔ blN n ed r a
theorem blN_step {n : Nat} {ed : Nat → Nat → Prop} (hn : n ≤ 12) {r : Nat} (hr : r < n) (a : Nat) : blN n ed r a ↔ (a < 22 ∧ ed r (phB a)) ∨ ∃ r', r' < n ∧ ed r r' ∧ blN n ed r' a := by
  unfold blN
  constructor
  · rintro ⟨h1, h2⟩
    have key : ed r (phB a) ∨ ∃ r', r' < n ∧ ed r r' ∧ rch (fun k b => k < n ∧ ed k b) 22 r' (phB a) := by
      refine rch_from (S := fun b => ed r b ∨ ∃ r', r' < n ∧ ed r r' ∧ rch (fun k b => k < n ∧ ed k b) 22 r' b) (fun b hb => Or.inl hb.2) (fun j b hj hb => ?_) 22 _ h2
      rcases hj with hj | ⟨r', r1, r2, r3⟩
      · exact Or.inr ⟨j, hb.1, hj, rch_up hb⟩
      · exact Or.inr ⟨r', r1, r2, rch_tr 22 _ j _ (by omega) r3 (rch_up hb)⟩
    rcases key with h | ⟨r', r1, r2, r3⟩
    · exact Or.inl ⟨h1, h⟩
    · exact Or.inr ⟨r', r1, r2, h1, r3⟩
  · rintro (⟨h1, h2⟩ | ⟨r', r1, r2, h1, r3⟩)
    · exact ⟨h1, rch_up ⟨hr, h2⟩⟩
    · exact ⟨h1, rch_tr 22 _ r' _ (by omega) (rch_up ⟨hr, r2⟩) r3⟩
theorem cc0_withBelow {D : Nat} (hD : 3 ≤ D) (σ : am_HS) {b : Nat} (hf : σ.2.2 = cH b) {B : Nat} (hB : B < 2) (N : Nat) (hN : hI σ (6 + B) 0 = (N : Int)) (hN12 : N ≤ 12) (S : Nat) (hS : S < 4194304) {ed : Nat → Nat → Prop} (hbl : ∀ r, r < N → hasB S (10 + r) → BLs σ B N ed r) : am_Do lc D mX0_withBelow σ [vR (some (6 + B)), vI (S : Int)] (qI fun z s => (∃ G : Nat, z = (G : Int) ∧ G < 4194304 ∧ ∀ a, hasB G a ↔ hasB S a ∨ ∃ r, r < N ∧ hasB S (10 + r) ∧ blN N ed r a) ∧ s = σ) := by
  obtain ⟨d, rfl⟩ : ∃ d, D = d + 1 := ⟨D - 1, by omega⟩
  refine am_enter rfl rfl (Nat.le_of_ble_eq_true rfl) ?_
  have lp : ∀ (m k M : Nat), k + m = N → M < 4194304 → (∀ a, hasB M a ↔ hasB S a ∨ ∃ r, r < k ∧ hasB S (10 + r) ∧ blN N ed r a) → am_Go lc d 0 4 1 cX0_withBelow 4 [some (vR (some (6 + B))), some (vI (S : Int)), some (vI (M : Int)), some (vI (k : Int))] [] σ (qI fun z s => (∃ G : Nat, z = (G : Int) ∧ G < 4194304 ∧ ∀ a, hasB G a ↔ hasB S a ∨ ∃ r, r < N ∧ hasB S (10 + r) ∧ blN N ed r a) ∧ s = σ) := by
    intro m
    induction m with
    | zero =>
      intro k M hk hM hU
      have e : k = N := by omega
      subst e
      refine g_iload_n dX0_withBelow_4 rfl ?_
      refine g_aload_n dX0_withBelow_5 rfl ?_
      refine g_getI dX0_withBelow_6 tf_0_39 (lc_b hB) rfl ?_
      refine g_icmp_ge (tgt := 38) dX0_withBelow_9 (by decide) (fun c9 => ?_) (fun c9 => ?_)
      · refine g_iload_n dX0_withBelow_38 rfl ?_
        refine g_ireturn dX0_withBelow_39 (Or.inl rfl) ⟨_, rfl, ?_⟩
        exact ⟨⟨M, rfl, hM, hU⟩, rfl⟩
      · exfalso; omega
    | succ m ih =>
      intro k M hk hM hU
      refine g_iload_n dX0_withBelow_4 rfl ?_
      refine g_aload_n dX0_withBelow_5 rfl ?_
      refine g_getI dX0_withBelow_6 tf_0_39 (lc_b hB) rfl ?_
      refine g_icmp_ge (tgt := 38) dX0_withBelow_9 (by decide) (fun c9 => ?_) (fun c9 => ?_)
      · exfalso; omega
      · refine g_iload_n dX0_withBelow_12 rfl ?_
        refine g_bipush dX0_withBelow_13 (by decide) ?_
        refine g_iload_n dX0_withBelow_15 rfl ?_
        refine g_iadd dX0_withBelow_16 rfl ⟨by omega, by omega⟩ ?_
        rw [show (10 : Int) + (k : Int) = ((10 + k : Nat) : Int) from by omega]
        refine g_callsI dX0_withBelow_17 tm_0_68 rfl ⟨Nat.le_of_ble_eq_true rfl, rfl, rfl⟩ (Nat.le_of_ble_eq_true rfl) (cc6_bit (by omega) σ S (10 + k) (by omega) (by omega)) (fun z17 s17 h17 => ?_)
        obtain ⟨h17, e17⟩ := h17
        obtain rfl := e17.symm
        refine g_iconst dX0_withBelow_20 ⟨by decide, by decide⟩ ?_
        refine g_icmp_ne (tgt := 32) dX0_withBelow_21 (by decide) (fun c21 => ?_) (fun c21 => ?_)
        · refine g_iinc dX0_withBelow_32 (by decide) rfl ⟨by omega, by omega⟩ (show (k : Int) + 1 = ((k + 1 : Nat) : Int) from by omega) rfl ?_
          refine g_goto (tgt := 4) dX0_withBelow_35 (by decide) ?_
          refine ih (k + 1) M (by omega) hM (fun a => (hU a).trans ?_)
          constructor
          · rintro (h | ⟨r, r1, r2⟩)
            · exact Or.inl h
            · exact Or.inr ⟨r, by omega, r2⟩
          · rintro (h | ⟨r, r1, r2, r3⟩)
            · exact Or.inl h
            · by_cases e : r = k
              · subst e
                rcases h17 with ⟨z1, z2⟩ | ⟨z1, z2⟩
                · exact absurd z1 (by omega)
                · exact absurd r2 z2
              · exact Or.inr ⟨r, by omega, r2, r3⟩
        · have hk17 : hasB S (10 + k) := by
            rcases h17 with ⟨z1, z2⟩ | ⟨z1, z2⟩
            · exact z2
            · exact absurd z1 (by omega)
          obtain ⟨g, g1, g2, g3⟩ := hbl k (by omega) hk17
          refine g_iload_n dX0_withBelow_24 rfl ?_
          refine g_aload_n dX0_withBelow_25 rfl ?_
          refine g_iload_n dX0_withBelow_26 rfl ?_
          refine g_callvI dX0_withBelow_27 tm_0_54 rfl ⟨rfl, rfl⟩ (lc_b hB) (Nat.le_of_ble_eq_true rfl) (cc0_belowOf (by omega) σ hf hB N hN hN12 k) (fun z27 s27 h27 => ?_)
          obtain ⟨h27, e27⟩ := h27
          obtain rfl := e27.symm
          rw [if_pos (by omega), g1] at h27
          subst h27
          refine g_ior dX0_withBelow_30 (bt_or (by omega) (by omega)) ?_
          refine g_istore_n dX0_withBelow_31 (by decide) rfl ?_
          refine g_iinc dX0_withBelow_32 (by decide) rfl ⟨by omega, by omega⟩ (show (k : Int) + 1 = ((k + 1 : Nat) : Int) from by omega) rfl ?_
          refine g_goto (tgt := 4) dX0_withBelow_35 (by decide) ?_
          refine ih (k + 1) (M ||| g) (by omega) (or_lt22 hM g2) (fun a => (or_bit _ _ _).trans ?_)
          rw [hU a, g3 a]
          constructor
          · rintro ((h | ⟨r, r1, r2⟩) | h)
            · exact Or.inl h
            · exact Or.inr ⟨r, by omega, r2⟩
            · exact Or.inr ⟨k, by omega, hk17, h⟩
          · rintro (h | ⟨r, r1, r2, r3⟩)
            · exact Or.inl (Or.inl h)
            · by_cases e : r = k
              · subst e
                exact Or.inr r3
              · exact Or.inl (Or.inr ⟨r, by omega, r2, r3⟩)
  refine g_iload_n dX0_withBelow_0 rfl ?_
  refine g_istore_n dX0_withBelow_1 (by decide) rfl ?_
  refine g_iconst dX0_withBelow_2 ⟨by decide, by decide⟩ ?_
  refine g_istore_n dX0_withBelow_3 (by decide) rfl ?_
  refine lp N 0 S (by omega) hS (fun a => ?_)
  exact ⟨Or.inl, fun h => h.elim id (fun ⟨w, w1, _⟩ => absurd w1 (Nat.not_lt_zero w))⟩
