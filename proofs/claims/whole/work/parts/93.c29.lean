/-! THE CLASS: names twice; what a rule hangs on -/
theorem cc0_firstTwice {D : Nat} (hD : 2 ≤ D) (σ : am_HS) {b : Nat} (hf : σ.2.2 = cH b) {B : Nat} (hB : B < 2) (N : Nat) (hN : hI σ (6 + B) 0 = (N : Int)) (hN12 : N ≤ 12) : am_Do lc D mX0_firstTwice σ [vR (some (6 + B))] (qI fun z s => ((z = -1 ∧ ∀ r, r < N → ¬ fdS (fun k => hI σ (19 + 9 * B) k) N (hI σ (19 + 9 * B) r) < (r : Int)) ∨ (∃ r, r < N ∧ z = (r : Int) ∧ fdS (fun k => hI σ (19 + 9 * B) k) N (hI σ (19 + 9 * B) r) < (r : Int) ∧ ∀ q, q < r → ¬ fdS (fun k => hI σ (19 + 9 * B) k) N (hI σ (19 + 9 * B) q) < (q : Int))) ∧ s = σ) := by
  obtain ⟨d, rfl⟩ : ∃ d, D = d + 1 := ⟨D - 1, by omega⟩
  refine am_enter rfl rfl (Nat.le_of_ble_eq_true rfl) ?_
  have lp : ∀ (m r : Nat), r + m = N → (∀ q, q < r → ¬ fdS (fun k => hI σ (19 + 9 * B) k) N (hI σ (19 + 9 * B) q) < (q : Int)) → am_Go lc d 0 2 1 cX0_firstTwice 2 [some (vR (some (6 + B))), some (vI (r : Int))] [] σ (qI fun z s => ((z = -1 ∧ ∀ r, r < N → ¬ fdS (fun k => hI σ (19 + 9 * B) k) N (hI σ (19 + 9 * B) r) < (r : Int)) ∨ (∃ r, r < N ∧ z = (r : Int) ∧ fdS (fun k => hI σ (19 + 9 * B) k) N (hI σ (19 + 9 * B) r) < (r : Int) ∧ ∀ q, q < r → ¬ fdS (fun k => hI σ (19 + 9 * B) k) N (hI σ (19 + 9 * B) q) < (q : Int))) ∧ s = σ) := by
    intro m
    induction m with
    | zero =>
      intro r hr hq
      refine g_iload_n dX0_firstTwice_2 rfl ?_
      refine g_aload_n dX0_firstTwice_3 rfl ?_
      refine g_getI dX0_firstTwice_4 tf_0_39 (lc_b hB) rfl ?_
      refine g_icmp_ge (tgt := 41) dX0_firstTwice_7 (by decide) (fun c7 => ?_) (fun c7 => ?_)
      · refine g_iconst dX0_firstTwice_41 ⟨by decide, by decide⟩ ?_
        refine g_ireturn dX0_firstTwice_42 (Or.inl rfl) ⟨_, rfl, ?_⟩
        exact ⟨Or.inl ⟨rfl, fun q hqN => hq q (by omega)⟩, rfl⟩
      · exfalso; omega
    | succ m ih =>
      intro r hr hq
      refine g_iload_n dX0_firstTwice_2 rfl ?_
      refine g_aload_n dX0_firstTwice_3 rfl ?_
      refine g_getI dX0_firstTwice_4 tf_0_39 (lc_b hB) rfl ?_
      refine g_icmp_ge (tgt := 41) dX0_firstTwice_7 (by decide) (fun c7 => ?_) (fun c7 => ?_)
      · exfalso; omega
      · refine g_iload_n dX0_firstTwice_10 rfl ?_
        refine g_aload_n dX0_firstTwice_11 rfl ?_
        refine g_getA dX0_firstTwice_12 tf_0_9 (lc_b hB) rfl (crb3 hf hB) ?_
        refine g_alen dX0_firstTwice_15 (lcb3 hB) (by decide) ?_
        refine g_icmp_ge (tgt := 41) dX0_firstTwice_16 (by decide) (fun c16 => ?_) (fun c16 => ?_)
        · exfalso; omega
        · refine g_aload_n dX0_firstTwice_19 rfl ?_
          refine g_aload_n dX0_firstTwice_20 rfl ?_
          refine g_getA dX0_firstTwice_21 tf_0_9 (lc_b hB) rfl (crb3 hf hB) ?_
          refine g_iload_n dX0_firstTwice_24 rfl ?_
          refine g_ialdN (r) dX0_firstTwice_25 (lcb3 hB) (by omega) (by omega) ?_
          refine g_callvI dX0_firstTwice_26 tm_0_62 rfl ⟨rfl, rfl⟩ (lc_b hB) (Nat.le_of_ble_eq_true rfl) (cc0_find (by omega) σ hf hB N hN hN12 _) (fun z26 s26 h26 => ?_)
          obtain ⟨h26, e26⟩ := h26
          obtain rfl := e26.symm
          refine g_iload_n dX0_firstTwice_29 rfl ?_
          refine g_icmp_ge (tgt := 35) dX0_firstTwice_30 (by decide) (fun c30 => ?_) (fun c30 => ?_)
          · refine g_iinc dX0_firstTwice_35 (by decide) rfl ⟨by omega, by omega⟩ (show (r : Int) + 1 = ((r + 1 : Nat) : Int) from by omega) rfl ?_
            refine g_goto (tgt := 2) dX0_firstTwice_38 (by decide) ?_
            refine ih (r + 1) (by omega) (fun q hqr => ?_)
            by_cases e : q = r
            · subst e
              rw [← h26]
              omega
            · exact hq q (by omega)
          · refine g_iload_n dX0_firstTwice_33 rfl ?_
            refine g_ireturn dX0_firstTwice_34 (Or.inl rfl) ⟨_, rfl, ?_⟩
            exact ⟨Or.inr ⟨r, by omega, rfl, by rw [← h26]; omega, hq⟩, rfl⟩
  refine g_iconst dX0_firstTwice_0 ⟨by decide, by decide⟩ ?_
  refine g_istore_n dX0_firstTwice_1 (by decide) rfl ?_
  exact lp N 0 (by omega) (fun q hq => by omega)
/-! bits and nodes: a work w is bit w and node 12 + w, a rule r bit 10 + r and node r -/
def phB (a : Nat) : Nat := if a < 10 then 12 + a else a - 10
theorem phB_w {w : Nat} (h : w < 10) : phB w = 12 + w := if_pos h
theorem phB_r (r : Nat) : phB (10 + r) = r := by unfold phB; rw [if_neg (by omega)]; omega
theorem phB_lt {a : Nat} (h : a < 22) : phB a < 22 := by unfold phB; split <;> omega
theorem phB_inj {a b : Nat} (ha : a < 22) (hb : b < 22) (h : phB a = phB b) : a = b := by
  unfold phB at h
  split at h <;> split at h <;> omega
theorem phB_on {b : Nat} (h : b < 22) : ∃ a, a < 22 ∧ phB a = b := by
  by_cases q : b < 12
  · exact ⟨10 + b, by omega, phB_r b⟩
  · exact ⟨b - 12, by omega, by rw [phB_w (by omega)]; omega⟩
theorem has_lt {a j : Nat} (ha : a < 4194304) (h : hasB a j) : j < 22 := by
  rcases Nat.lt_or_ge j 22 with q | q
  · exact q
  · unfold hasB at h
    rw [Nat.testBit_lt_two_pow (Nat.lt_of_lt_of_le (show a < 2 ^ 22 from ha) (Nat.pow_le_pow_right (by decide) q))] at h
    cases h
/-- the set that is closed is what is reached -/
theorem und_fin {E : Nat → Nat → Prop} {r0 F : Nat} (h1 : ∀ a, hasB F a → a < 22 ∧ rch E 22 r0 (phB a)) (h2 : ∀ a, a < 22 → E r0 (phB a) → hasB F a) (h3 : ∀ j a, a < 22 → hasB F j → E (phB j) (phB a) → hasB F a) (hE : ∀ k b, E k b → b < 22) : ∀ a, hasB F a ↔ a < 22 ∧ rch E 22 r0 (phB a) := by
  intro a
  refine ⟨h1 a, fun h => ?_⟩
  have key : ∀ b, rch E 22 r0 b → ∃ a, a < 22 ∧ phB a = b ∧ hasB F a := by
    intro b hb
    refine rch_from (S := fun b => ∃ a, a < 22 ∧ phB a = b ∧ hasB F a) (fun b hb => ?_) (fun j b hj hb => ?_) 22 b hb
    · obtain ⟨a, a1, a2⟩ := phB_on (hE _ _ hb)
      exact ⟨a, a1, a2, h2 a a1 (by rw [a2]; exact hb)⟩
    · obtain ⟨c, c1, c2, c3⟩ := hj
      obtain ⟨a, a1, a2⟩ := phB_on (hE _ _ hb)
      exact ⟨a, a1, a2, h3 c a a1 c3 (by rw [a2, c2]; exact hb)⟩
  obtain ⟨c, c1, c2, c3⟩ := key _ h.2
  rw [← phB_inj c1 h.1 c2]
  exact c3
theorem und_full {F : Nat} (h : 22 ≤ cntB (fun j => F.testBit j) 22) : ∀ a, a < 22 → hasB F a := by
  intro a ha
  by_cases q : hasB F a
  · exact q
  · exfalso
    have hq : F.testBit a = false := by
      unfold hasB at q
      cases hx : F.testBit a
      · rfl
      · exact absurd hx q
    have := cntB_lt (c := fun j => F.testBit j) (c' := fun _ => true) 22 (fun _ _ _ => rfl) ⟨a, ha, rfl, hq⟩
    rw [cntB_all] at this
    omega
theorem und_grow {F M : Nat} (hF : F < 4194304) (hM : M < 4194304) (hs : ∀ a, hasB F a → hasB M a) (hne : M ≠ F) : cntB (fun j => F.testBit j) 22 < cntB (fun j => M.testBit j) 22 := by
  refine cntB_lt 22 (fun j _ h => hs j h) ?_
  by_cases q : ∃ j, j < 22 ∧ M.testBit j = true ∧ F.testBit j = false
  · exact q
  · exfalso
    apply hne
    apply Nat.eq_of_testBit_eq
    intro j
    cases hm : M.testBit j
    · cases hf : F.testBit j
      · rfl
      · have h2 := hs j hf
        unfold hasB at h2
        rw [hm] at h2
        cases h2
    · cases hf : F.testBit j
      · exact absurd ⟨j, has_lt hM hm, hm, hf⟩ q
      · rfl
/-- the rows of names of a book -/
def NBk (σ : am_HS) (B n : Nat) (ed : Nat → Nat → Prop) : Prop := ∀ r, r < n → ∃ g : Nat, hI σ (22 + 9 * B) r = (g : Int) ∧ g < 4194304 ∧ ∀ a, hasB g a ↔ a < 22 ∧ ed r (phB a)
/-- one round of 'under': rules below k, then works below k -/
def UnR (ed : Nat → Nat → Prop) (F k : Nat) (a : Nat) : Prop := hasB F a ∨ ∃ r, r < k ∧ hasB F (10 + r) ∧ a < 22 ∧ ed r (phB a)
def UnW (ed : Nat → Nat → Prop) (n : Nat) (nd : Nat → Int) (F k : Nat) (a : Nat) : Prop := UnR ed F n a ∨ ∃ w, w < k ∧ hasB F w ∧ 0 ≤ nd w ∧ nd w < (n : Int) ∧ a = 10 + (nd w).toNat
theorem UnW_E {ed : Nat → Nat → Prop} {n W : Nat} {nd : Nat → Int} {F : Nat} (hF : F < 4194304) (hn : n ≤ 12) (hW : W ≤ 10) (a : Nat) : UnW ed n nd F W a ↔ hasB F a ∨ ∃ j, hasB F j ∧ a < 22 ∧ EdW ed n W nd (phB j) (phB a) := by
  unfold UnW UnR EdW
  constructor
  · rintro ((h | ⟨r, r1, r2, r3, r4⟩) | ⟨w, w1, w2, w3, w4, w5⟩)
    · exact Or.inl h
    · exact Or.inr ⟨10 + r, r2, r3, Or.inl ⟨by rw [phB_r]; exact r1, by rw [phB_r]; exact r4⟩⟩
    · refine Or.inr ⟨w, w2, by omega, Or.inr ⟨w, w1, phB_w (by omega), w3, w4, ?_⟩⟩
      rw [w5, phB_r]
  · rintro (h | ⟨j, j1, j2, (⟨j3, j4⟩ | ⟨w, w1, w2, w3, w4, w5⟩)⟩)
    · exact Or.inl (Or.inl h)
    · have hj := has_lt hF j1
      have e : j = 10 + phB j := by
        unfold phB at j3 ⊢
        split at j3 <;> split <;> omega
      exact Or.inl (Or.inr ⟨phB j, j3, by rw [← e]; exact j1, j2, j4⟩)
    · have hj := has_lt hF j1
      have e : j = w := phB_inj hj (by omega) (by rw [w2, phB_w (by omega)])
      subst e
      refine Or.inr ⟨j, w1, j1, w3, w4, ?_⟩
      refine phB_inj j2 (by omega) ?_
      rw [w5, phB_r]
