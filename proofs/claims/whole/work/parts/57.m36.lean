/-! THE REFERENCE: names that are tied -/
/-- the first rule of a name, from k on -/
def fdF (nm : Nat → Int) (v : Int) : Nat → Nat → Int
  | 0, _ => -1
  | m + 1, k => if nm k = v then (k : Int) else fdF nm v m (k + 1)
def fdS (nm : Nat → Int) (n : Nat) (v : Int) : Int := fdF nm v n 0
theorem fdF_r {nm : Nat → Int} {v : Int} : ∀ m k, (fdF nm v m k = -1 ∧ ∀ j : Nat, k ≤ j → j < k + m → nm j ≠ v) ∨ (∃ j : Nat, fdF nm v m k = (j : Int) ∧ k ≤ j ∧ j < k + m ∧ nm j = v ∧ ∀ i : Nat, k ≤ i → i < j → nm i ≠ v)
  | 0, k => Or.inl ⟨rfl, fun j h1 h2 => by omega⟩
  | m + 1, k => by
    unfold fdF
    by_cases h : nm k = v
    · rw [if_pos h]
      exact Or.inr ⟨k, rfl, Nat.le_refl _, by omega, h, fun i h1 h2 => by omega⟩
    · rw [if_neg h]
      rcases fdF_r (nm := nm) (v := v) m (k + 1) with ⟨a, b⟩ | ⟨j, a, b, c, d, e⟩
      · refine Or.inl ⟨a, fun j h1 h2 => ?_⟩
        rcases Nat.lt_or_ge k j with q | q
        · exact b j q (by omega)
        · have : j = k := by omega
          rw [this]; exact h
      · refine Or.inr ⟨j, a, by omega, by omega, d, fun i h1 h2 => ?_⟩
        rcases Nat.lt_or_ge k i with q | q
        · exact e i q h2
        · have : i = k := by omega
          rw [this]; exact h
theorem fdS_r (nm : Nat → Int) (n : Nat) (v : Int) : (fdS nm n v = -1 ∧ ∀ j : Nat, j < n → nm j ≠ v) ∨ (∃ j : Nat, fdS nm n v = (j : Int) ∧ j < n ∧ nm j = v ∧ ∀ i : Nat, i < j → nm i ≠ v) := by
  rcases fdF_r (nm := nm) (v := v) n 0 with ⟨a, b⟩ | ⟨j, a, b, c, d, e⟩
  · exact Or.inl ⟨a, fun j hj => b j (Nat.zero_le _) (by omega)⟩
  · exact Or.inr ⟨j, a, by omega, d, fun i hi => e i (Nat.zero_le _) hi⟩
theorem fdF_congr {nm nm' : Nat → Int} {v : Int} : ∀ m k, (∀ j, k ≤ j → j < k + m → nm' j = nm j) → fdF nm' v m k = fdF nm v m k
  | 0, _, _ => rfl
  | m + 1, k, h => by
    unfold fdF
    rw [h k (Nat.le_refl _) (by omega), fdF_congr m (k + 1) (fun j a b => h j (by omega) (by omega))]
theorem fdS_congr {nm nm' : Nat → Int} {n : Nat} {v : Int} (h : ∀ j, j < n → nm' j = nm j) : fdS nm' n v = fdS nm n v := fdF_congr n 0 (fun j _ b => h j (by omega))
/-- what a name is tied to: a rule, 100 and a work, or nothing -/
def rsS (nm : Nat → Int) (n : Nat) (W : Int) (v : Int) : Int := if 0 ≤ fdS nm n v then fdS nm n v else if 0 ≤ wkS v ∧ wkS v < W then 100 + wkS v else -1
theorem wkS_r (v : Int) : wkS v = -1 ∨ 0 ≤ wkS v ∧ wkS v < 10 := by
  unfold wkS
  split <;> omega
theorem rsS_r (nm : Nat → Int) {n : Nat} (hn : n ≤ 12) (W : Int) (v : Int) : rsS nm n W v = -1 ∨ (0 ≤ rsS nm n W v ∧ rsS nm n W v < (n : Int)) ∨ (100 ≤ rsS nm n W v ∧ rsS nm n W v < 110 ∧ rsS nm n W v - 100 < W) := by
  have h1 := wkS_r v
  unfold rsS
  rcases fdS_r nm n v with ⟨a, _⟩ | ⟨j, a, b, _⟩
  · rw [a, if_neg (by omega)]
    split <;> omega
  · rw [a, if_pos (by omega)]
    omega
theorem cm_ruleOf {D oth n : Nat} (hD : 1 ≤ D) (σ : am_HS) (hf : σ.2.2 = mH) (hoth : oth < 2) (hn : hI σ 23 oth = (n : Int)) (hn12 : n ≤ 12) (v : Int) : am_Do lm D mX7_ruleOf σ [vR (some 0), vI (oth : Int), vI v] (qI fun z s => z = fdS (fun k => hI σ 24 (12 * oth + k)) n v ∧ s = σ) := by
  obtain ⟨d, rfl⟩ : ∃ d, D = d + 1 := ⟨D - 1, by omega⟩
  refine am_enter rfl rfl (Nat.le_of_ble_eq_true rfl) ?_
  have loop : ∀ (m k : Nat), k + m = n → fdF (fun k => hI σ 24 (12 * oth + k)) v m k = fdS (fun k => hI σ 24 (12 * oth + k)) n v → am_Go lm d 7 4 1 cX7_ruleOf 2 [some (vR (some 0)), some (vI (oth : Int)), some (vI v), some (vI (k : Int))] [] σ (qI fun z s => z = fdS (fun k => hI σ 24 (12 * oth + k)) n v ∧ s = σ) := by
    intro m
    induction m with
    | zero =>
      intro k hk he
      refine g_iload_n dX7_ruleOf_2 rfl ?_
      refine g_aload_n dX7_ruleOf_3 rfl ?_
      refine g_getA dX7_ruleOf_4 tf_7_77 rfl rfl (mrf hf rfl) ?_
      refine g_iload_n dX7_ruleOf_7 rfl ?_
      refine g_ialdN (oth) dX7_ruleOf_8 rfl (by omega) (by omega) ?_
      refine g_icmp_ge (tgt := 35) dX7_ruleOf_9 (by decide) (fun c9 => ?_) (fun c9 => ?_)
      · refine g_iconst dX7_ruleOf_35 ⟨by decide, by decide⟩ ?_
        refine g_ireturn dX7_ruleOf_36 (Or.inl rfl) ⟨_, rfl, ?_⟩
        exact ⟨he, rfl⟩
      · exfalso; omega
    | succ m ih =>
      intro k hk he
      unfold fdF at he
      refine g_iload_n dX7_ruleOf_2 rfl ?_
      refine g_aload_n dX7_ruleOf_3 rfl ?_
      refine g_getA dX7_ruleOf_4 tf_7_77 rfl rfl (mrf hf rfl) ?_
      refine g_iload_n dX7_ruleOf_7 rfl ?_
      refine g_ialdN (oth) dX7_ruleOf_8 rfl (by omega) (by omega) ?_
      refine g_icmp_ge (tgt := 35) dX7_ruleOf_9 (by decide) (fun c9 => ?_) (fun c9 => ?_)
      · exfalso; omega
      · refine g_aload_n dX7_ruleOf_12 rfl ?_
        refine g_getA dX7_ruleOf_13 tf_7_80 rfl rfl (mrf hf rfl) ?_
        refine g_bipush dX7_ruleOf_16 (by decide) ?_
        refine g_iload_n dX7_ruleOf_18 rfl ?_
        refine g_imul dX7_ruleOf_19 rfl ⟨by omega, by omega⟩ ?_
        refine g_iload_n dX7_ruleOf_20 rfl ?_
        refine g_iadd dX7_ruleOf_21 rfl ⟨by omega, by omega⟩ ?_
        refine g_ialdN (12 * oth + k) dX7_ruleOf_22 rfl (by omega) (by omega) ?_
        refine g_iload_n dX7_ruleOf_23 rfl ?_
        refine g_icmp_ne (tgt := 29) dX7_ruleOf_24 (by decide) (fun c24 => ?_) (fun c24 => ?_)
        · rw [if_neg c24] at he
          refine g_iinc dX7_ruleOf_29 (by decide) rfl ⟨by omega, by omega⟩ (show (k : Int) + 1 = ((k + 1 : Nat) : Int) from by omega) rfl ?_
          refine g_goto (tgt := 2) dX7_ruleOf_32 (by decide) ?_
          exact ih (k + 1) (by omega) he
        · rw [if_pos (Classical.not_not.mp c24)] at he
          refine g_iload_n dX7_ruleOf_27 rfl ?_
          refine g_ireturn dX7_ruleOf_28 (Or.inl rfl) ⟨_, rfl, ?_⟩
          exact ⟨he, rfl⟩
  refine g_iconst dX7_ruleOf_0 ⟨by decide, by decide⟩ ?_
  refine g_istore_n dX7_ruleOf_1 (by decide) rfl ?_
  exact loop n 0 (by omega) rfl
theorem cm_twice {D oth n : Nat} (hD : 2 ≤ D) (σ : am_HS) (hf : σ.2.2 = mH) (ho : hI σ 0 43 = (oth : Int)) (hoth : oth < 2) (hn : hI σ 23 oth = (n : Int)) (hn12 : n ≤ 12) : am_Do lm D mX7_twice σ [vR (some 0)] (qI fun z s => ((z = -1 ∧ ∀ r, r < n → ¬ fdS (fun k => hI σ 24 (12 * oth + k)) n (hI σ 24 (12 * oth + r)) < (r : Int)) ∨ (∃ r, r < n ∧ z = (r : Int) ∧ fdS (fun k => hI σ 24 (12 * oth + k)) n (hI σ 24 (12 * oth + r)) < (r : Int) ∧ ∀ q, q < r → ¬ fdS (fun k => hI σ 24 (12 * oth + k)) n (hI σ 24 (12 * oth + q)) < (q : Int))) ∧ s = σ) := by
  obtain ⟨d, rfl⟩ : ∃ d, D = d + 1 := ⟨D - 1, by omega⟩
  refine am_enter rfl rfl (Nat.le_of_ble_eq_true rfl) ?_
  have loop : ∀ (m k : Nat), k + m = n → (∀ q, q < k → ¬ fdS (fun k => hI σ 24 (12 * oth + k)) n (hI σ 24 (12 * oth + q)) < (q : Int)) → am_Go lm d 7 2 1 cX7_twice 2 [some (vR (some 0)), some (vI (k : Int))] [] σ (qI fun z s => ((z = -1 ∧ ∀ r, r < n → ¬ fdS (fun k => hI σ 24 (12 * oth + k)) n (hI σ 24 (12 * oth + r)) < (r : Int)) ∨ (∃ r, r < n ∧ z = (r : Int) ∧ fdS (fun k => hI σ 24 (12 * oth + k)) n (hI σ 24 (12 * oth + r)) < (r : Int) ∧ ∀ q, q < r → ¬ fdS (fun k => hI σ 24 (12 * oth + k)) n (hI σ 24 (12 * oth + q)) < (q : Int))) ∧ s = σ) := by
    intro m
    induction m with
    | zero =>
      intro k hk he
      have hk2 : k = n := by omega
      subst hk2
      refine g_iload_n dX7_twice_2 rfl ?_
      refine g_aload_n dX7_twice_3 rfl ?_
      refine g_getA dX7_twice_4 tf_7_77 rfl rfl (mrf hf rfl) ?_
      refine g_aload_n dX7_twice_7 rfl ?_
      refine g_getI dX7_twice_8 tf_7_207 rfl rfl ?_
      rw [ho]
      refine g_ialdN (oth) dX7_twice_11 rfl (by omega) (by omega) ?_
      refine g_icmp_ge (tgt := 49) dX7_twice_12 (by decide) (fun c12 => ?_) (fun c12 => ?_)
      · refine g_iconst dX7_twice_49 ⟨by decide, by decide⟩ ?_
        refine g_ireturn dX7_twice_50 (Or.inl rfl) ⟨_, rfl, ?_⟩
        exact ⟨Or.inl ⟨rfl, he⟩, rfl⟩
      · exfalso; omega
    | succ m ih =>
      intro k hk he
      refine g_iload_n dX7_twice_2 rfl ?_
      refine g_aload_n dX7_twice_3 rfl ?_
      refine g_getA dX7_twice_4 tf_7_77 rfl rfl (mrf hf rfl) ?_
      refine g_aload_n dX7_twice_7 rfl ?_
      refine g_getI dX7_twice_8 tf_7_207 rfl rfl ?_
      rw [ho]
      refine g_ialdN (oth) dX7_twice_11 rfl (by omega) (by omega) ?_
      refine g_icmp_ge (tgt := 49) dX7_twice_12 (by decide) (fun c12 => ?_) (fun c12 => ?_)
      · exfalso; omega
      · refine g_aload_n dX7_twice_15 rfl ?_
        refine g_aload_n dX7_twice_16 rfl ?_
        refine g_getI dX7_twice_17 tf_7_207 rfl rfl ?_
        rw [ho]
        refine g_aload_n dX7_twice_20 rfl ?_
        refine g_getA dX7_twice_21 tf_7_80 rfl rfl (mrf hf rfl) ?_
        refine g_bipush dX7_twice_24 (by decide) ?_
        refine g_aload_n dX7_twice_26 rfl ?_
        refine g_getI dX7_twice_27 tf_7_207 rfl rfl ?_
        rw [ho]
        refine g_imul dX7_twice_30 rfl ⟨by omega, by omega⟩ ?_
        refine g_iload_n dX7_twice_31 rfl ?_
        refine g_iadd dX7_twice_32 rfl ⟨by omega, by omega⟩ ?_
        refine g_ialdN (12 * oth + k) dX7_twice_33 rfl (by omega) (by omega) ?_
        refine g_callvI dX7_twice_34 tm_7_243 rfl ⟨rfl, rfl⟩ rfl (Nat.le_of_ble_eq_true rfl) (cm_ruleOf (by omega) σ hf hoth hn hn12 _) (fun z34 s34 h34 => ?_)
        obtain ⟨rfl, e34⟩ := h34
        obtain rfl := e34.symm
        refine g_iload_n dX7_twice_37 rfl ?_
        refine g_icmp_ge (tgt := 43) dX7_twice_38 (by decide) (fun c38 => ?_) (fun c38 => ?_)
        · refine g_iinc dX7_twice_43 (by decide) rfl ⟨by omega, by omega⟩ (show (k : Int) + 1 = ((k + 1 : Nat) : Int) from by omega) rfl ?_
          refine g_goto (tgt := 2) dX7_twice_46 (by decide) ?_
          refine ih (k + 1) (by omega) (fun q hq => ?_)
          rcases Nat.lt_or_ge q k with g | g
          · exact he q g
          · have : q = k := by omega
            subst this
            omega
        · refine g_iload_n dX7_twice_41 rfl ?_
          refine g_ireturn dX7_twice_42 (Or.inl rfl) ⟨_, rfl, ?_⟩
          exact ⟨Or.inr ⟨k, by omega, rfl, by omega, he⟩, rfl⟩
  refine g_iconst dX7_twice_0 ⟨by decide, by decide⟩ ?_
  refine g_istore_n dX7_twice_1 (by decide) rfl ?_
  exact loop n 0 (by omega) (fun q hq => absurd hq (Nat.not_lt_zero _))
/-- the names of the nodes below K tied -/
def hoM (σ : am_HS) (oth n : Nat) (W : Int) (K : Nat) : am_HS := (fun a b => if a = 18 ∧ 1600 * oth ≤ b ∧ b < 1600 * oth + K ∧ hI σ 17 b = 1 then Int32.ofInt (rsS (fun k => hI σ 24 (12 * oth + k)) n W (hI σ 18 b)) else σ.1 a b, σ.2)
theorem hoM_o {σ : am_HS} {oth n : Nat} {W : Int} {K o k : Nat} (h : ¬ (o = 18 ∧ 1600 * oth ≤ k ∧ k < 1600 * oth + K ∧ hI σ 17 k = 1)) : hI (hoM σ oth n W K) o k = hI σ o k := congrArg Int32.toInt (if_neg h)
theorem hoM_i {σ : am_HS} {oth n : Nat} (hn : n ≤ 12) {W : Int} {K k : Nat} (h : 1600 * oth ≤ k ∧ k < 1600 * oth + K ∧ hI σ 17 k = 1) : hI (hoM σ oth n W K) 18 k = rsS (fun k => hI σ 24 (12 * oth + k)) n W (hI σ 18 k) := by
  have hr := rsS_r (fun k => hI σ 24 (12 * oth + k)) hn W (hI σ 18 k)
  show (if (18 = 18 ∧ 1600 * oth ≤ k ∧ k < 1600 * oth + K ∧ hI σ 17 k = 1) then Int32.ofInt (rsS (fun k => hI σ 24 (12 * oth + k)) n W (hI σ 18 k)) else σ.1 18 k).toInt = _
  rw [if_pos ⟨rfl, h⟩]
  exact wI_e ⟨by omega, by omega⟩
theorem hoM_0 (σ : am_HS) (oth n : Nat) (W : Int) : hoM σ oth n W 0 = σ := by
  unfold hoM
  refine Prod.ext ?_ rfl
  funext a b
  dsimp only
  rw [if_neg (by omega)]
theorem hoM_n {σ : am_HS} {oth n : Nat} {W : Int} {K : Nat} (h : hI σ 17 (1600 * oth + K) ≠ 1) : hoM σ oth n W (K + 1) = hoM σ oth n W K := by
  unfold hoM
  refine Prod.ext ?_ rfl
  funext a b
  dsimp only
  by_cases q : a = 18 ∧ 1600 * oth ≤ b ∧ b < 1600 * oth + K ∧ hI σ 17 b = 1
  · rw [if_pos q, if_pos ⟨q.1, q.2.1, by omega, q.2.2.2⟩]
  · rw [if_neg q, if_neg (fun g => ?_)]
    obtain ⟨g1, g2, g3, g4⟩ := g
    rcases Nat.lt_or_ge b (1600 * oth + K) with e | e
    · exact q ⟨g1, g2, e, g4⟩
    · have : b = 1600 * oth + K := by omega
      rw [this] at g4
      exact h g4
theorem hoM_s {σ : am_HS} {oth n : Nat} {W : Int} {K : Nat} (h : hI σ 17 (1600 * oth + K) = 1) : uI (hoM σ oth n W K) 18 (1600 * oth + K) (rsS (fun k => hI σ 24 (12 * oth + k)) n W (hI σ 18 (1600 * oth + K))) = hoM σ oth n W (K + 1) := by
  unfold hoM uI
  refine Prod.ext ?_ rfl
  funext a b
  dsimp only
  by_cases q : a = 18 ∧ b = 1600 * oth + K
  · rw [if_pos q, q.1, q.2, if_pos ⟨rfl, by omega, by omega, h⟩]
  · rw [if_neg q]
    by_cases q2 : a = 18 ∧ 1600 * oth ≤ b ∧ b < 1600 * oth + K ∧ hI σ 17 b = 1
    · rw [if_pos q2, if_pos ⟨q2.1, q2.2.1, by omega, q2.2.2.2⟩]
    · rw [if_neg q2, if_neg (fun g => ?_)]
      obtain ⟨g1, g2, g3, g4⟩ := g
      rcases Nat.lt_or_ge b (1600 * oth + K) with e | e
      · exact q2 ⟨g1, g2, e, g4⟩
      · exact q ⟨g1, by omega⟩
/-- a rule with a hole, by its nodes below K -/
def hlM (σ : am_HS) (oth n : Nat) (W : Int) (lo K : Nat) : Prop := ∃ k, lo ≤ k ∧ k < K ∧ hI σ 17 (1600 * oth + k) = 1 ∧ rsS (fun k => hI σ 24 (12 * oth + k)) n W (hI σ 18 (1600 * oth + k)) < 0
/-- the first one so far -/
def hfM (σ : am_HS) (oth n : Nat) (W : Int) (cf : Nat → Nat) (r K : Nat) (z : Int) : Prop := (z = -1 ∧ (∀ q, q < r → ¬ hlM σ oth n W (cf q) (cf (q + 1))) ∧ ¬ hlM σ oth n W (cf r) K) ∨ (∃ q, q < r ∧ z = (q : Int) ∧ hlM σ oth n W (cf q) (cf (q + 1)) ∧ ∀ p, p < q → ¬ hlM σ oth n W (cf p) (cf (p + 1))) ∨ (z = (r : Int) ∧ hlM σ oth n W (cf r) K ∧ ∀ p, p < r → ¬ hlM σ oth n W (cf p) (cf (p + 1)))
theorem hfM_st {σ : am_HS} {oth n : Nat} {W : Int} {cf : Nat → Nat} {r K : Nat} {z : Int} (h : hfM σ oth n W cf r K z) (hK : cf r ≤ K) (z' : Int) (h1 : ¬ (hI σ 17 (1600 * oth + K) = 1 ∧ rsS (fun k => hI σ 24 (12 * oth + k)) n W (hI σ 18 (1600 * oth + K)) < 0) ∧ z' = z ∨ (hI σ 17 (1600 * oth + K) = 1 ∧ rsS (fun k => hI σ 24 (12 * oth + k)) n W (hI σ 18 (1600 * oth + K)) < 0) ∧ z' = (if z < 0 then (r : Int) else z)) : hfM σ oth n W cf r (K + 1) z' := by
  have up : hlM σ oth n W (cf r) K → hlM σ oth n W (cf r) (K + 1) := fun ⟨k, a, b, c⟩ => ⟨k, a, by omega, c⟩
  rcases h1 with ⟨h1, rfl⟩ | ⟨h1, h2⟩
  · rcases h with ⟨a, b, c⟩ | h | ⟨a, b, c⟩
    · refine Or.inl ⟨a, b, fun ⟨k, k1, k2, k3⟩ => ?_⟩
      rcases Nat.lt_or_ge k K with q | q
      · exact c ⟨k, k1, q, k3⟩
      · have : k = K := by omega
        subst this
        exact h1 k3
    · exact Or.inr (Or.inl h)
    · exact Or.inr (Or.inr ⟨a, up b, c⟩)
  · rcases h with ⟨a, b, c⟩ | ⟨q, a, b, c⟩ | ⟨a, b, c⟩
    · rw [a, if_pos (by decide)] at h2
      exact Or.inr (Or.inr ⟨h2, ⟨K, hK, by omega, h1⟩, b⟩)
    · rw [b, if_neg (by omega)] at h2
      exact Or.inr (Or.inl ⟨q, a, h2, c⟩)
    · rw [a, if_neg (by omega)] at h2
      exact Or.inr (Or.inr ⟨h2, up b, c⟩)
theorem hfM_nx {σ : am_HS} {oth n : Nat} {W : Int} {cf : Nat → Nat} {r : Nat} {z : Int} (h : hfM σ oth n W cf r (cf (r + 1)) z) : hfM σ oth n W cf (r + 1) (cf (r + 1)) z := by
  have no : ¬ hlM σ oth n W (cf (r + 1)) (cf (r + 1)) := fun ⟨k, a, b, _⟩ => by omega
  rcases h with ⟨a, b, c⟩ | ⟨q, a, b, c⟩ | ⟨a, b, c⟩
  · refine Or.inl ⟨a, fun q hq => ?_, no⟩
    rcases Nat.lt_or_ge q r with g | g
    · exact b q g
    · have : q = r := by omega
      subst this
      exact c
  · exact Or.inr (Or.inl ⟨q, by omega, b, c⟩)
  · exact Or.inr (Or.inl ⟨r, by omega, a, b, c⟩)
theorem holes_in {d : Nat} (hD : 2 ≤ d) {oth n : Nat} (σ : am_HS) (hf0 : σ.2.2 = mH) (ho : hI σ 0 43 = (oth : Int)) (hoth : oth < 2) (hn : hI σ 23 oth = (n : Int)) (hn12 : n ≤ 12) (W : Int) (hW : hI σ 0 2 = W) (cf : Nat → Nat) (hcm : ∀ k, k < n → cf k < cf (k + 1)) (hcl : ∀ k, k ≤ n → cf k ≤ 1600) (h26 : ∀ k, k ≤ n → hI σ 26 (13 * oth + k) = (cf k : Int)) (hnu : ∀ j, hI σ 17 j = 1 → 1600 * oth ≤ j → j < 1600 * oth + cf n → -1000000 ≤ hI σ 18 j ∧ hI σ 18 j ≤ 1000000) (r : Nat) (hr : r < n) (hcr : cf (r + 1) ≤ cf n) (hnext : ∀ (z : Int) (o3 o4 o5 o6 : Option am_V), hfM σ oth n W cf r (cf (r + 1)) z → am_Go lm d 7 7 1 cX7_holes 154 [some (vR (some 0)), some (vI z), some (vI (r : Int)), o3, o4, o5, o6] [] (hoM σ oth n W (cf (r + 1))) (qI fun z s => hfM σ oth n W cf n (cf n) z ∧ s = hoM σ oth n W (cf n))) : ∀ (m k : Nat) (z : Int) (o4 o5 o6 : Option am_V), k + m = cf (r + 1) → cf r ≤ k → hfM σ oth n W cf r k z → am_Go lm d 7 7 1 cX7_holes 32 [some (vR (some 0)), some (vI z), some (vI (r : Int)), some (vI (k : Int)), o4, o5, o6] [] (hoM σ oth n W k) (qI fun z s => hfM σ oth n W cf n (cf n) z ∧ s = hoM σ oth n W (cf n)) := by
  have hc1 := hcl (r + 1) (by omega)
  intro m
  induction m with
  | zero =>
    intro k z o4 o5 o6 hk hkl hz
    have ek : k = cf (r + 1) := by omega
    subst ek
    have hf : (hoM σ oth n W (cf (r + 1))).2.2 = mH := hf0
    have g43 : hI (hoM σ oth n W (cf (r + 1))) 0 43 = (oth : Int) := (hoM_o (by omega)).trans ho
    have g26 : hI (hoM σ oth n W (cf (r + 1))) 26 (13 * oth + (r + 1)) = (cf (r + 1) : Int) := (hoM_o (by omega)).trans (h26 _ (by omega))
    refine g_iload_n dX7_holes_32 rfl ?_
    refine g_aload_n dX7_holes_33 rfl ?_
    refine g_getA dX7_holes_34 tf_7_86 rfl rfl (mrf hf rfl) ?_
    refine g_bipush dX7_holes_37 (by decide) ?_
    refine g_aload_n dX7_holes_39 rfl ?_
    refine g_getI dX7_holes_40 tf_7_207 rfl rfl ?_
    rw [g43]
    refine g_imul dX7_holes_43 rfl ⟨by omega, by omega⟩ ?_
    refine g_iload_n dX7_holes_44 rfl ?_
    refine g_iadd dX7_holes_45 rfl ⟨by omega, by omega⟩ ?_
    refine g_iconst dX7_holes_46 ⟨by decide, by decide⟩ ?_
    refine g_iadd dX7_holes_47 rfl ⟨by omega, by omega⟩ ?_
    refine g_ialdN (13 * oth + (r + 1)) dX7_holes_48 rfl (by omega) (by omega) ?_
    refine g_icmp_ge (tgt := 154) dX7_holes_49 (by decide) (fun c49 => ?_) (fun c49 => ?_)
    · exact hnext z _ _ _ _ hz
    · exfalso; omega
  | succ m ih =>
    intro k z o4 o5 o6 hk hkl hz
    have hf : (hoM σ oth n W k).2.2 = mH := hf0
    have g43 : hI (hoM σ oth n W k) 0 43 = (oth : Int) := (hoM_o (by omega)).trans ho
    have g26 : hI (hoM σ oth n W k) 26 (13 * oth + (r + 1)) = (cf (r + 1) : Int) := (hoM_o (by omega)).trans (h26 _ (by omega))
    have g17 : hI (hoM σ oth n W k) 17 (1600 * oth + k) = hI σ 17 (1600 * oth + k) := hoM_o (by omega)
    have g18 : hI (hoM σ oth n W k) 18 (1600 * oth + k) = hI σ 18 (1600 * oth + k) := hoM_o (by omega)
    have g23 : hI (hoM σ oth n W k) 23 oth = (n : Int) := (hoM_o (by omega)).trans hn
    have g2 : hI (hoM σ oth n W k) 0 2 = W := (hoM_o (by omega)).trans hW
    have g24 : (fun j => hI (hoM σ oth n W k) 24 (12 * oth + j)) = (fun j => hI σ 24 (12 * oth + j)) := funext fun j => hoM_o (by omega)
    have ih := fun z' o4 o5 o6 h1 => ih (k + 1) z' o4 o5 o6 (by omega) (by omega) h1
    refine g_iload_n dX7_holes_32 rfl ?_
    refine g_aload_n dX7_holes_33 rfl ?_
    refine g_getA dX7_holes_34 tf_7_86 rfl rfl (mrf hf rfl) ?_
    refine g_bipush dX7_holes_37 (by decide) ?_
    refine g_aload_n dX7_holes_39 rfl ?_
    refine g_getI dX7_holes_40 tf_7_207 rfl rfl ?_
    rw [g43]
    refine g_imul dX7_holes_43 rfl ⟨by omega, by omega⟩ ?_
    refine g_iload_n dX7_holes_44 rfl ?_
    refine g_iadd dX7_holes_45 rfl ⟨by omega, by omega⟩ ?_
    refine g_iconst dX7_holes_46 ⟨by decide, by decide⟩ ?_
    refine g_iadd dX7_holes_47 rfl ⟨by omega, by omega⟩ ?_
    refine g_ialdN (13 * oth + (r + 1)) dX7_holes_48 rfl (by omega) (by omega) ?_
    refine g_icmp_ge (tgt := 154) dX7_holes_49 (by decide) (fun c49 => ?_) (fun c49 => ?_)
    · exfalso; omega
    · refine g_sipush dX7_holes_52 (by decide) ?_
      refine g_aload_n dX7_holes_55 rfl ?_
      refine g_getI dX7_holes_56 tf_7_207 rfl rfl ?_
      rw [g43]
      refine g_imul dX7_holes_59 rfl ⟨by omega, by omega⟩ ?_
      refine g_iload_n dX7_holes_60 rfl ?_
      refine g_iadd dX7_holes_61 rfl ⟨by omega, by omega⟩ ?_
      refine g_istore dX7_holes_62 (by decide) rfl ?_
      refine g_aload_n dX7_holes_64 rfl ?_
      refine g_getA dX7_holes_65 tf_7_59 rfl rfl (mrf hf rfl) ?_
      refine g_iload dX7_holes_68 rfl ?_
      refine g_ialdN (1600 * oth + k) dX7_holes_70 rfl (by omega) (by omega) ?_
      rw [g17]
      refine g_iconst dX7_holes_71 ⟨by decide, by decide⟩ ?_
      refine g_icmp_eq (tgt := 78) dX7_holes_72 (by decide) (fun c72 => ?_) (fun c72 => ?_)
      · have hv := hnu _ c72 (by omega) (by omega)
        refine g_aload_n dX7_holes_78 rfl ?_
        refine g_aload_n dX7_holes_79 rfl ?_
        refine g_getI dX7_holes_80 tf_7_207 rfl rfl ?_
        rw [g43]
        refine g_aload_n dX7_holes_83 rfl ?_
        refine g_getA dX7_holes_84 tf_7_62 rfl rfl (mrf hf rfl) ?_
        refine g_iload dX7_holes_87 rfl ?_
        refine g_ialdN (1600 * oth + k) dX7_holes_89 rfl (by omega) (by omega) ?_
        rw [g18]
        refine g_callvI dX7_holes_90 tm_7_243 rfl ⟨rfl, rfl⟩ rfl (Nat.le_of_ble_eq_true rfl) (cm_ruleOf (by omega) (hoM σ oth n W k) hf hoth g23 hn12 _) (fun z90 s90 h90 => ?_)
        obtain ⟨hz90, e90⟩ := h90
        obtain rfl := e90.symm
        rw [g24] at hz90
        have hrs : rsS (fun j => hI σ 24 (12 * oth + j)) n W (hI σ 18 (1600 * oth + k)) = if 0 ≤ z90 then z90 else if 0 ≤ wkS (hI σ 18 (1600 * oth + k)) ∧ wkS (hI σ 18 (1600 * oth + k)) < W then 100 + wkS (hI σ 18 (1600 * oth + k)) else -1 := by rw [hz90]; rfl
        have hfd := fdS_r (fun j => hI σ 24 (12 * oth + j)) n (hI σ 18 (1600 * oth + k))
        have hz91 : z90 = -1 ∨ 0 ≤ z90 := by
          rcases hfd with ⟨a, -⟩ | ⟨j, a, -⟩
          · exact Or.inl (hz90.trans a)
          · exact Or.inr (by rw [hz90, a]; omega)
        clear hfd hz90
        have hwk := wkS_r (hI σ 18 (1600 * oth + k))
        refine g_istore dX7_holes_93 (by decide) rfl ?_
        refine g_aload_n dX7_holes_95 rfl ?_
        refine g_getA dX7_holes_96 tf_7_62 rfl rfl (mrf hf rfl) ?_
        refine g_iload dX7_holes_99 rfl ?_
        refine g_ialdN (1600 * oth + k) dX7_holes_101 rfl (by omega) (by omega) ?_
        rw [g18]
        refine g_callsI dX7_holes_102 tm_7_240 rfl ⟨Nat.le_of_ble_eq_true rfl, rfl, rfl⟩ (Nat.le_of_ble_eq_true rfl) (cm_workOf (by omega) _ _ hv) (fun z102 s102 h102 => ?_)
        obtain ⟨rfl, e102⟩ := h102
        obtain rfl := e102.symm
        refine g_istore dX7_holes_105 (by decide) rfl ?_
        refine g_iload dX7_holes_107 rfl ?_
        refine g_if_ge (tgt := 128) dX7_holes_109 (by decide) (fun c109 => ?_) (fun c109 => ?_)
        · refine g_iload dX7_holes_128 rfl ?_
          refine g_if_ge (tgt := 139) dX7_holes_130 (by decide) (fun c130 => ?_) (fun c130 => ?_)
          · have done_ : ∀ (z' x : Int) (o6 : Option am_V), x = rsS (fun j => hI σ 24 (12 * oth + j)) n W (hI σ 18 (1600 * oth + k)) → (¬ x < 0 ∧ z' = z ∨ x < 0 ∧ z' = (if z < 0 then (r : Int) else z)) → am_Go lm d 7 7 1 cX7_holes 139 [some (vR (some 0)), some (vI z'), some (vI (r : Int)), some (vI (k : Int)), some (vI (1600 * (oth : Int) + (k : Int))), some (vI x), o6] [] (hoM σ oth n W k) (qI fun z s => hfM σ oth n W cf n (cf n) z ∧ s = hoM σ oth n W (cf n)) := by
              intro z' x o6 hx hzz
              refine g_aload_n dX7_holes_139 rfl ?_
              refine g_getA dX7_holes_140 tf_7_62 rfl rfl (mrf hf rfl) ?_
              refine g_iload dX7_holes_143 rfl ?_
              refine g_iload dX7_holes_145 rfl ?_
              refine g_iastN (1600 * oth + k) dX7_holes_147 rfl (by omega) (by omega) ?_
              refine g_iinc dX7_holes_148 (by decide) rfl ⟨by omega, by omega⟩ (show (k : Int) + 1 = ((k + 1 : Nat) : Int) from by omega) rfl ?_
              refine g_goto (tgt := 32) dX7_holes_151 (by decide) ?_
              rw [hx, hoM_s c72]
              refine ih z' _ _ _ (hfM_st hz hkl z' ?_)
              rcases hzz with ⟨a, b⟩ | ⟨a, b⟩
              · exact Or.inl ⟨fun q => a (by rw [hx]; exact q.2), b⟩
              · exact Or.inr ⟨⟨c72, by rw [← hx]; exact a⟩, b⟩
            refine done_ _ _ _ ?_ ?_
            · rw [hrs]
              first
                | (rw [if_pos (by omega)]; done)
                | (rw [if_neg (by omega), if_pos (by omega)]; done)
                | (rw [if_neg (by omega), if_neg (by omega)]; omega)
            · first
                | exact Or.inl ⟨by omega, rfl⟩
                | exact Or.inr ⟨by omega, (if_pos (by omega)).symm⟩
                | exact Or.inr ⟨by omega, (if_neg (by omega)).symm⟩
          · refine g_iload_n dX7_holes_133 rfl ?_
            refine g_if_ge (tgt := 139) dX7_holes_134 (by decide) (fun c134 => ?_) (fun c134 => ?_)
            · have done_ : ∀ (z' x : Int) (o6 : Option am_V), x = rsS (fun j => hI σ 24 (12 * oth + j)) n W (hI σ 18 (1600 * oth + k)) → (¬ x < 0 ∧ z' = z ∨ x < 0 ∧ z' = (if z < 0 then (r : Int) else z)) → am_Go lm d 7 7 1 cX7_holes 139 [some (vR (some 0)), some (vI z'), some (vI (r : Int)), some (vI (k : Int)), some (vI (1600 * (oth : Int) + (k : Int))), some (vI x), o6] [] (hoM σ oth n W k) (qI fun z s => hfM σ oth n W cf n (cf n) z ∧ s = hoM σ oth n W (cf n)) := by
                intro z' x o6 hx hzz
                refine g_aload_n dX7_holes_139 rfl ?_
                refine g_getA dX7_holes_140 tf_7_62 rfl rfl (mrf hf rfl) ?_
                refine g_iload dX7_holes_143 rfl ?_
                refine g_iload dX7_holes_145 rfl ?_
                refine g_iastN (1600 * oth + k) dX7_holes_147 rfl (by omega) (by omega) ?_
                refine g_iinc dX7_holes_148 (by decide) rfl ⟨by omega, by omega⟩ (show (k : Int) + 1 = ((k + 1 : Nat) : Int) from by omega) rfl ?_
                refine g_goto (tgt := 32) dX7_holes_151 (by decide) ?_
                rw [hx, hoM_s c72]
                refine ih z' _ _ _ (hfM_st hz hkl z' ?_)
                rcases hzz with ⟨a, b⟩ | ⟨a, b⟩
                · exact Or.inl ⟨fun q => a (by rw [hx]; exact q.2), b⟩
                · exact Or.inr ⟨⟨c72, by rw [← hx]; exact a⟩, b⟩
              refine done_ _ _ _ ?_ ?_
              · rw [hrs]
                first
                  | (rw [if_pos (by omega)]; done)
                  | (rw [if_neg (by omega), if_pos (by omega)]; done)
                  | (rw [if_neg (by omega), if_neg (by omega)]; omega)
              · first
                  | exact Or.inl ⟨by omega, rfl⟩
                  | exact Or.inr ⟨by omega, (if_pos (by omega)).symm⟩
                  | exact Or.inr ⟨by omega, (if_neg (by omega)).symm⟩
            · refine g_iload_n dX7_holes_137 rfl ?_
              refine g_istore_n dX7_holes_138 (by decide) rfl ?_
              have done_ : ∀ (z' x : Int) (o6 : Option am_V), x = rsS (fun j => hI σ 24 (12 * oth + j)) n W (hI σ 18 (1600 * oth + k)) → (¬ x < 0 ∧ z' = z ∨ x < 0 ∧ z' = (if z < 0 then (r : Int) else z)) → am_Go lm d 7 7 1 cX7_holes 139 [some (vR (some 0)), some (vI z'), some (vI (r : Int)), some (vI (k : Int)), some (vI (1600 * (oth : Int) + (k : Int))), some (vI x), o6] [] (hoM σ oth n W k) (qI fun z s => hfM σ oth n W cf n (cf n) z ∧ s = hoM σ oth n W (cf n)) := by
                intro z' x o6 hx hzz
                refine g_aload_n dX7_holes_139 rfl ?_
                refine g_getA dX7_holes_140 tf_7_62 rfl rfl (mrf hf rfl) ?_
                refine g_iload dX7_holes_143 rfl ?_
                refine g_iload dX7_holes_145 rfl ?_
                refine g_iastN (1600 * oth + k) dX7_holes_147 rfl (by omega) (by omega) ?_
                refine g_iinc dX7_holes_148 (by decide) rfl ⟨by omega, by omega⟩ (show (k : Int) + 1 = ((k + 1 : Nat) : Int) from by omega) rfl ?_
                refine g_goto (tgt := 32) dX7_holes_151 (by decide) ?_
                rw [hx, hoM_s c72]
                refine ih z' _ _ _ (hfM_st hz hkl z' ?_)
                rcases hzz with ⟨a, b⟩ | ⟨a, b⟩
                · exact Or.inl ⟨fun q => a (by rw [hx]; exact q.2), b⟩
                · exact Or.inr ⟨⟨c72, by rw [← hx]; exact a⟩, b⟩
              refine done_ _ _ _ ?_ ?_
              · rw [hrs]
                first
                  | (rw [if_pos (by omega)]; done)
                  | (rw [if_neg (by omega), if_pos (by omega)]; done)
                  | (rw [if_neg (by omega), if_neg (by omega)]; omega)
              · first
                  | exact Or.inl ⟨by omega, rfl⟩
                  | exact Or.inr ⟨by omega, (if_pos (by omega)).symm⟩
                  | exact Or.inr ⟨by omega, (if_neg (by omega)).symm⟩
        · refine g_aload_n dX7_holes_112 rfl ?_
          refine g_iload dX7_holes_113 rfl ?_
          refine g_callvI dX7_holes_115 tm_7_156 rfl ⟨rfl, rfl⟩ rfl (Nat.le_of_ble_eq_true rfl) (cm_isWork (by omega) _ _) (fun z115 s115 h115 => ?_)
          obtain ⟨h115, e115⟩ := h115
          obtain rfl := e115.symm
          rw [g2] at h115
          refine g_if_eq (tgt := 128) dX7_holes_118 (by decide) (fun c118 => ?_) (fun c118 => ?_)
          · refine g_iload dX7_holes_128 rfl ?_
            refine g_if_ge (tgt := 139) dX7_holes_130 (by decide) (fun c130 => ?_) (fun c130 => ?_)
            · have done_ : ∀ (z' x : Int) (o6 : Option am_V), x = rsS (fun j => hI σ 24 (12 * oth + j)) n W (hI σ 18 (1600 * oth + k)) → (¬ x < 0 ∧ z' = z ∨ x < 0 ∧ z' = (if z < 0 then (r : Int) else z)) → am_Go lm d 7 7 1 cX7_holes 139 [some (vR (some 0)), some (vI z'), some (vI (r : Int)), some (vI (k : Int)), some (vI (1600 * (oth : Int) + (k : Int))), some (vI x), o6] [] (hoM σ oth n W k) (qI fun z s => hfM σ oth n W cf n (cf n) z ∧ s = hoM σ oth n W (cf n)) := by
                intro z' x o6 hx hzz
                refine g_aload_n dX7_holes_139 rfl ?_
                refine g_getA dX7_holes_140 tf_7_62 rfl rfl (mrf hf rfl) ?_
                refine g_iload dX7_holes_143 rfl ?_
                refine g_iload dX7_holes_145 rfl ?_
                refine g_iastN (1600 * oth + k) dX7_holes_147 rfl (by omega) (by omega) ?_
                refine g_iinc dX7_holes_148 (by decide) rfl ⟨by omega, by omega⟩ (show (k : Int) + 1 = ((k + 1 : Nat) : Int) from by omega) rfl ?_
                refine g_goto (tgt := 32) dX7_holes_151 (by decide) ?_
                rw [hx, hoM_s c72]
                refine ih z' _ _ _ (hfM_st hz hkl z' ?_)
                rcases hzz with ⟨a, b⟩ | ⟨a, b⟩
                · exact Or.inl ⟨fun q => a (by rw [hx]; exact q.2), b⟩
                · exact Or.inr ⟨⟨c72, by rw [← hx]; exact a⟩, b⟩
              refine done_ _ _ _ ?_ ?_
              · rw [hrs]
                first
                  | (rw [if_pos (by omega)]; done)
                  | (rw [if_neg (by omega), if_pos (by omega)]; done)
                  | (rw [if_neg (by omega), if_neg (by omega)]; omega)
              · first
                  | exact Or.inl ⟨by omega, rfl⟩
                  | exact Or.inr ⟨by omega, (if_pos (by omega)).symm⟩
                  | exact Or.inr ⟨by omega, (if_neg (by omega)).symm⟩
            · refine g_iload_n dX7_holes_133 rfl ?_
              refine g_if_ge (tgt := 139) dX7_holes_134 (by decide) (fun c134 => ?_) (fun c134 => ?_)
              · have done_ : ∀ (z' x : Int) (o6 : Option am_V), x = rsS (fun j => hI σ 24 (12 * oth + j)) n W (hI σ 18 (1600 * oth + k)) → (¬ x < 0 ∧ z' = z ∨ x < 0 ∧ z' = (if z < 0 then (r : Int) else z)) → am_Go lm d 7 7 1 cX7_holes 139 [some (vR (some 0)), some (vI z'), some (vI (r : Int)), some (vI (k : Int)), some (vI (1600 * (oth : Int) + (k : Int))), some (vI x), o6] [] (hoM σ oth n W k) (qI fun z s => hfM σ oth n W cf n (cf n) z ∧ s = hoM σ oth n W (cf n)) := by
                  intro z' x o6 hx hzz
                  refine g_aload_n dX7_holes_139 rfl ?_
                  refine g_getA dX7_holes_140 tf_7_62 rfl rfl (mrf hf rfl) ?_
                  refine g_iload dX7_holes_143 rfl ?_
                  refine g_iload dX7_holes_145 rfl ?_
                  refine g_iastN (1600 * oth + k) dX7_holes_147 rfl (by omega) (by omega) ?_
                  refine g_iinc dX7_holes_148 (by decide) rfl ⟨by omega, by omega⟩ (show (k : Int) + 1 = ((k + 1 : Nat) : Int) from by omega) rfl ?_
                  refine g_goto (tgt := 32) dX7_holes_151 (by decide) ?_
                  rw [hx, hoM_s c72]
                  refine ih z' _ _ _ (hfM_st hz hkl z' ?_)
                  rcases hzz with ⟨a, b⟩ | ⟨a, b⟩
                  · exact Or.inl ⟨fun q => a (by rw [hx]; exact q.2), b⟩
                  · exact Or.inr ⟨⟨c72, by rw [← hx]; exact a⟩, b⟩
                refine done_ _ _ _ ?_ ?_
                · rw [hrs]
                  first
                    | (rw [if_pos (by omega)]; done)
                    | (rw [if_neg (by omega), if_pos (by omega)]; done)
                    | (rw [if_neg (by omega), if_neg (by omega)]; omega)
                · first
                    | exact Or.inl ⟨by omega, rfl⟩
                    | exact Or.inr ⟨by omega, (if_pos (by omega)).symm⟩
                    | exact Or.inr ⟨by omega, (if_neg (by omega)).symm⟩
              · refine g_iload_n dX7_holes_137 rfl ?_
                refine g_istore_n dX7_holes_138 (by decide) rfl ?_
                have done_ : ∀ (z' x : Int) (o6 : Option am_V), x = rsS (fun j => hI σ 24 (12 * oth + j)) n W (hI σ 18 (1600 * oth + k)) → (¬ x < 0 ∧ z' = z ∨ x < 0 ∧ z' = (if z < 0 then (r : Int) else z)) → am_Go lm d 7 7 1 cX7_holes 139 [some (vR (some 0)), some (vI z'), some (vI (r : Int)), some (vI (k : Int)), some (vI (1600 * (oth : Int) + (k : Int))), some (vI x), o6] [] (hoM σ oth n W k) (qI fun z s => hfM σ oth n W cf n (cf n) z ∧ s = hoM σ oth n W (cf n)) := by
                  intro z' x o6 hx hzz
                  refine g_aload_n dX7_holes_139 rfl ?_
                  refine g_getA dX7_holes_140 tf_7_62 rfl rfl (mrf hf rfl) ?_
                  refine g_iload dX7_holes_143 rfl ?_
                  refine g_iload dX7_holes_145 rfl ?_
                  refine g_iastN (1600 * oth + k) dX7_holes_147 rfl (by omega) (by omega) ?_
                  refine g_iinc dX7_holes_148 (by decide) rfl ⟨by omega, by omega⟩ (show (k : Int) + 1 = ((k + 1 : Nat) : Int) from by omega) rfl ?_
                  refine g_goto (tgt := 32) dX7_holes_151 (by decide) ?_
                  rw [hx, hoM_s c72]
                  refine ih z' _ _ _ (hfM_st hz hkl z' ?_)
                  rcases hzz with ⟨a, b⟩ | ⟨a, b⟩
                  · exact Or.inl ⟨fun q => a (by rw [hx]; exact q.2), b⟩
                  · exact Or.inr ⟨⟨c72, by rw [← hx]; exact a⟩, b⟩
                refine done_ _ _ _ ?_ ?_
                · rw [hrs]
                  first
                    | (rw [if_pos (by omega)]; done)
                    | (rw [if_neg (by omega), if_pos (by omega)]; done)
                    | (rw [if_neg (by omega), if_neg (by omega)]; omega)
                · first
                    | exact Or.inl ⟨by omega, rfl⟩
                    | exact Or.inr ⟨by omega, (if_pos (by omega)).symm⟩
                    | exact Or.inr ⟨by omega, (if_neg (by omega)).symm⟩
          · refine g_bipush dX7_holes_121 (by decide) ?_
            refine g_iload dX7_holes_123 rfl ?_
            refine g_iadd dX7_holes_125 rfl ⟨by omega, by omega⟩ ?_
            refine g_istore dX7_holes_126 (by decide) rfl ?_
            refine g_iload dX7_holes_128 rfl ?_
            refine g_if_ge (tgt := 139) dX7_holes_130 (by decide) (fun c130 => ?_) (fun c130 => ?_)
            · have done_ : ∀ (z' x : Int) (o6 : Option am_V), x = rsS (fun j => hI σ 24 (12 * oth + j)) n W (hI σ 18 (1600 * oth + k)) → (¬ x < 0 ∧ z' = z ∨ x < 0 ∧ z' = (if z < 0 then (r : Int) else z)) → am_Go lm d 7 7 1 cX7_holes 139 [some (vR (some 0)), some (vI z'), some (vI (r : Int)), some (vI (k : Int)), some (vI (1600 * (oth : Int) + (k : Int))), some (vI x), o6] [] (hoM σ oth n W k) (qI fun z s => hfM σ oth n W cf n (cf n) z ∧ s = hoM σ oth n W (cf n)) := by
                intro z' x o6 hx hzz
                refine g_aload_n dX7_holes_139 rfl ?_
                refine g_getA dX7_holes_140 tf_7_62 rfl rfl (mrf hf rfl) ?_
                refine g_iload dX7_holes_143 rfl ?_
                refine g_iload dX7_holes_145 rfl ?_
                refine g_iastN (1600 * oth + k) dX7_holes_147 rfl (by omega) (by omega) ?_
                refine g_iinc dX7_holes_148 (by decide) rfl ⟨by omega, by omega⟩ (show (k : Int) + 1 = ((k + 1 : Nat) : Int) from by omega) rfl ?_
                refine g_goto (tgt := 32) dX7_holes_151 (by decide) ?_
                rw [hx, hoM_s c72]
                refine ih z' _ _ _ (hfM_st hz hkl z' ?_)
                rcases hzz with ⟨a, b⟩ | ⟨a, b⟩
                · exact Or.inl ⟨fun q => a (by rw [hx]; exact q.2), b⟩
                · exact Or.inr ⟨⟨c72, by rw [← hx]; exact a⟩, b⟩
              refine done_ _ _ _ ?_ ?_
              · rw [hrs]
                first
                  | (rw [if_pos (by omega)]; done)
                  | (rw [if_neg (by omega), if_pos (by omega)]; done)
                  | (rw [if_neg (by omega), if_neg (by omega)]; omega)
              · first
                  | exact Or.inl ⟨by omega, rfl⟩
                  | exact Or.inr ⟨by omega, (if_pos (by omega)).symm⟩
                  | exact Or.inr ⟨by omega, (if_neg (by omega)).symm⟩
            · refine g_iload_n dX7_holes_133 rfl ?_
              refine g_if_ge (tgt := 139) dX7_holes_134 (by decide) (fun c134 => ?_) (fun c134 => ?_)
              · have done_ : ∀ (z' x : Int) (o6 : Option am_V), x = rsS (fun j => hI σ 24 (12 * oth + j)) n W (hI σ 18 (1600 * oth + k)) → (¬ x < 0 ∧ z' = z ∨ x < 0 ∧ z' = (if z < 0 then (r : Int) else z)) → am_Go lm d 7 7 1 cX7_holes 139 [some (vR (some 0)), some (vI z'), some (vI (r : Int)), some (vI (k : Int)), some (vI (1600 * (oth : Int) + (k : Int))), some (vI x), o6] [] (hoM σ oth n W k) (qI fun z s => hfM σ oth n W cf n (cf n) z ∧ s = hoM σ oth n W (cf n)) := by
                  intro z' x o6 hx hzz
                  refine g_aload_n dX7_holes_139 rfl ?_
                  refine g_getA dX7_holes_140 tf_7_62 rfl rfl (mrf hf rfl) ?_
                  refine g_iload dX7_holes_143 rfl ?_
                  refine g_iload dX7_holes_145 rfl ?_
                  refine g_iastN (1600 * oth + k) dX7_holes_147 rfl (by omega) (by omega) ?_
                  refine g_iinc dX7_holes_148 (by decide) rfl ⟨by omega, by omega⟩ (show (k : Int) + 1 = ((k + 1 : Nat) : Int) from by omega) rfl ?_
                  refine g_goto (tgt := 32) dX7_holes_151 (by decide) ?_
                  rw [hx, hoM_s c72]
                  refine ih z' _ _ _ (hfM_st hz hkl z' ?_)
                  rcases hzz with ⟨a, b⟩ | ⟨a, b⟩
                  · exact Or.inl ⟨fun q => a (by rw [hx]; exact q.2), b⟩
                  · exact Or.inr ⟨⟨c72, by rw [← hx]; exact a⟩, b⟩
                refine done_ _ _ _ ?_ ?_
                · rw [hrs]
                  first
                    | (rw [if_pos (by omega)]; done)
                    | (rw [if_neg (by omega), if_pos (by omega)]; done)
                    | (rw [if_neg (by omega), if_neg (by omega)]; omega)
                · first
                    | exact Or.inl ⟨by omega, rfl⟩
                    | exact Or.inr ⟨by omega, (if_pos (by omega)).symm⟩
                    | exact Or.inr ⟨by omega, (if_neg (by omega)).symm⟩
              · refine g_iload_n dX7_holes_137 rfl ?_
                refine g_istore_n dX7_holes_138 (by decide) rfl ?_
                have done_ : ∀ (z' x : Int) (o6 : Option am_V), x = rsS (fun j => hI σ 24 (12 * oth + j)) n W (hI σ 18 (1600 * oth + k)) → (¬ x < 0 ∧ z' = z ∨ x < 0 ∧ z' = (if z < 0 then (r : Int) else z)) → am_Go lm d 7 7 1 cX7_holes 139 [some (vR (some 0)), some (vI z'), some (vI (r : Int)), some (vI (k : Int)), some (vI (1600 * (oth : Int) + (k : Int))), some (vI x), o6] [] (hoM σ oth n W k) (qI fun z s => hfM σ oth n W cf n (cf n) z ∧ s = hoM σ oth n W (cf n)) := by
                  intro z' x o6 hx hzz
                  refine g_aload_n dX7_holes_139 rfl ?_
                  refine g_getA dX7_holes_140 tf_7_62 rfl rfl (mrf hf rfl) ?_
                  refine g_iload dX7_holes_143 rfl ?_
                  refine g_iload dX7_holes_145 rfl ?_
                  refine g_iastN (1600 * oth + k) dX7_holes_147 rfl (by omega) (by omega) ?_
                  refine g_iinc dX7_holes_148 (by decide) rfl ⟨by omega, by omega⟩ (show (k : Int) + 1 = ((k + 1 : Nat) : Int) from by omega) rfl ?_
                  refine g_goto (tgt := 32) dX7_holes_151 (by decide) ?_
                  rw [hx, hoM_s c72]
                  refine ih z' _ _ _ (hfM_st hz hkl z' ?_)
                  rcases hzz with ⟨a, b⟩ | ⟨a, b⟩
                  · exact Or.inl ⟨fun q => a (by rw [hx]; exact q.2), b⟩
                  · exact Or.inr ⟨⟨c72, by rw [← hx]; exact a⟩, b⟩
                refine done_ _ _ _ ?_ ?_
                · rw [hrs]
                  first
                    | (rw [if_pos (by omega)]; done)
                    | (rw [if_neg (by omega), if_pos (by omega)]; done)
                    | (rw [if_neg (by omega), if_neg (by omega)]; omega)
                · first
                    | exact Or.inl ⟨by omega, rfl⟩
                    | exact Or.inr ⟨by omega, (if_pos (by omega)).symm⟩
                    | exact Or.inr ⟨by omega, (if_neg (by omega)).symm⟩
      · refine g_goto (tgt := 148) dX7_holes_75 (by decide) ?_
        refine g_iinc dX7_holes_148 (by decide) rfl ⟨by omega, by omega⟩ (show (k : Int) + 1 = ((k + 1 : Nat) : Int) from by omega) rfl ?_
        refine g_goto (tgt := 32) dX7_holes_151 (by decide) ?_
        rw [← hoM_n c72]
        exact ih z _ _ _ (hfM_st hz hkl z (Or.inl ⟨fun q => c72 q.1, rfl⟩))
theorem cm_holes {D : Nat} (hD : 3 ≤ D) {oth n : Nat} (σ : am_HS) (hf0 : σ.2.2 = mH) (ho : hI σ 0 43 = (oth : Int)) (hoth : oth < 2) (hn : hI σ 23 oth = (n : Int)) (hn12 : n ≤ 12) (W : Int) (hW : hI σ 0 2 = W) (cf : Nat → Nat) (hcm : ∀ k, k < n → cf k < cf (k + 1)) (hcl : ∀ k, k ≤ n → cf k ≤ 1600) (h26 : ∀ k, k ≤ n → hI σ 26 (13 * oth + k) = (cf k : Int)) (hnu : ∀ j, hI σ 17 j = 1 → 1600 * oth ≤ j → j < 1600 * oth + cf n → -1000000 ≤ hI σ 18 j ∧ hI σ 18 j ≤ 1000000) (hc0 : cf 0 = 0) : am_Do lm D mX7_holes σ [vR (some 0)] (qI fun z s => hfM σ oth n W cf n (cf n) z ∧ s = hoM σ oth n W (cf n)) := by
  obtain ⟨d, rfl⟩ : ∃ d, D = d + 1 := ⟨D - 1, by omega⟩
  refine am_enter rfl rfl (Nat.le_of_ble_eq_true rfl) ?_
  have hcm2 := cf_mono hcm
  have loop : ∀ (m r : Nat) (z : Int) (o3 o4 o5 o6 : Option am_V), r + m = n → hfM σ oth n W cf r (cf r) z → am_Go lm d 7 7 1 cX7_holes 4 [some (vR (some 0)), some (vI z), some (vI (r : Int)), o3, o4, o5, o6] [] (hoM σ oth n W (cf r)) (qI fun z s => hfM σ oth n W cf n (cf n) z ∧ s = hoM σ oth n W (cf n)) := by
    intro m
    induction m with
    | zero =>
      intro r z o3 o4 o5 o6 hr hz
      have er : r = n := by omega
      subst er
      have hf : (hoM σ oth r W (cf r)).2.2 = mH := hf0
      have g43 : hI (hoM σ oth r W (cf r)) 0 43 = (oth : Int) := (hoM_o (by omega)).trans ho
      have g23 : hI (hoM σ oth r W (cf r)) 23 oth = (r : Int) := (hoM_o (by omega)).trans hn
      refine g_iload_n dX7_holes_4 rfl ?_
      refine g_aload_n dX7_holes_5 rfl ?_
      refine g_getA dX7_holes_6 tf_7_77 rfl rfl (mrf hf rfl) ?_
      refine g_aload_n dX7_holes_9 rfl ?_
      refine g_getI dX7_holes_10 tf_7_207 rfl rfl ?_
      rw [g43]
      refine g_ialdN (oth) dX7_holes_13 rfl (by omega) (by omega) ?_
      refine g_icmp_ge (tgt := 160) dX7_holes_14 (by decide) (fun c14 => ?_) (fun c14 => ?_)
      · refine g_iload_n dX7_holes_160 rfl ?_
        refine g_ireturn dX7_holes_161 (Or.inl rfl) ⟨_, rfl, ?_⟩
        exact ⟨hz, rfl⟩
      · exfalso; omega
    | succ m ih =>
      intro r z o3 o4 o5 o6 hr hz
      have hf : (hoM σ oth n W (cf r)).2.2 = mH := hf0
      have g43 : hI (hoM σ oth n W (cf r)) 0 43 = (oth : Int) := (hoM_o (by omega)).trans ho
      have g23 : hI (hoM σ oth n W (cf r)) 23 oth = (n : Int) := (hoM_o (by omega)).trans hn
      have g26 : hI (hoM σ oth n W (cf r)) 26 (13 * oth + r) = (cf r : Int) := (hoM_o (by omega)).trans (h26 _ (by omega))
      have hcr := hcm r (by omega)
      refine g_iload_n dX7_holes_4 rfl ?_
      refine g_aload_n dX7_holes_5 rfl ?_
      refine g_getA dX7_holes_6 tf_7_77 rfl rfl (mrf hf rfl) ?_
      refine g_aload_n dX7_holes_9 rfl ?_
      refine g_getI dX7_holes_10 tf_7_207 rfl rfl ?_
      rw [g43]
      refine g_ialdN (oth) dX7_holes_13 rfl (by omega) (by omega) ?_
      refine g_icmp_ge (tgt := 160) dX7_holes_14 (by decide) (fun c14 => ?_) (fun c14 => ?_)
      · exfalso; omega
      · refine g_aload_n dX7_holes_17 rfl ?_
        refine g_getA dX7_holes_18 tf_7_86 rfl rfl (mrf hf rfl) ?_
        refine g_bipush dX7_holes_21 (by decide) ?_
        refine g_aload_n dX7_holes_23 rfl ?_
        refine g_getI dX7_holes_24 tf_7_207 rfl rfl ?_
        rw [g43]
        refine g_imul dX7_holes_27 rfl ⟨by omega, by omega⟩ ?_
        refine g_iload_n dX7_holes_28 rfl ?_
        refine g_iadd dX7_holes_29 rfl ⟨by omega, by omega⟩ ?_
        refine g_ialdN (13 * oth + r) dX7_holes_30 rfl (by omega) (by omega) ?_
        rw [g26]
        refine g_istore_n dX7_holes_31 (by decide) rfl ?_
        refine holes_in (by omega) σ hf0 ho hoth hn hn12 W hW cf hcm hcl h26 hnu r (by omega) (hcm2 r (by omega)) (fun z o3 o4 o5 o6 hz2 => ?_) (cf (r + 1) - cf r) (cf r) z _ _ _ (by omega) (Nat.le_refl _) hz
        have hz3 := hfM_nx hz2
        refine g_iinc dX7_holes_154 (by decide) rfl ⟨by omega, by omega⟩ (show (r : Int) + 1 = ((r + 1 : Nat) : Int) from by omega) rfl ?_
        refine g_goto (tgt := 4) dX7_holes_157 (by decide) ?_
        exact ih (r + 1) z _ _ _ _ (by omega) hz3
  have h0 := hoM_0 σ oth n W
  rw [← hc0] at h0
  refine g_iconst dX7_holes_0 ⟨by decide, by decide⟩ ?_
  refine g_istore_n dX7_holes_1 (by decide) rfl ?_
  refine g_iconst dX7_holes_2 ⟨by decide, by decide⟩ ?_
  refine g_istore_n dX7_holes_3 (by decide) rfl ?_
  have := loop n 0 (-1) none none none none (by omega) (Or.inl ⟨rfl, fun q hq => absurd hq (Nat.not_lt_zero _), fun ⟨k, a, b, _⟩ => by omega⟩)
  rw [h0] at this
  exact this
