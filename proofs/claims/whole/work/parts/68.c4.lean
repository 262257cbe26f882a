/-! THE CLASS: sheets -/
/-- the bounds of the class's cells -/
def rgC (σ : am_HS) : Prop := (∀ k, k < 60 → (0 ≤ hI σ (47 + 4 * k) 0 ∧ hI σ (47 + 4 * k) 0 ≤ 1000) ∧ (0 ≤ hI σ (47 + 4 * k) 1 ∧ hI σ (47 + 4 * k) 1 ≤ 1) ∧ (0 ≤ hI σ (47 + 4 * k) 2 ∧ hI σ (47 + 4 * k) 2 ≤ 100000) ∧ (-1 ≤ hI σ (47 + 4 * k) 3 ∧ hI σ (47 + 4 * k) 3 ≤ 5) ∧ (∀ t, t < 3 → (0 ≤ hI σ (47 + 4 * k + 1) t ∧ hI σ (47 + 4 * k + 1) t ≤ 100000) ∧ (-1 ≤ hI σ (47 + 4 * k + 2) t ∧ hI σ (47 + 4 * k + 2) t ≤ 20)) ∧ ∀ q, q < 6 → -1 ≤ hI σ (47 + 4 * k + 3) q ∧ hI σ (47 + 4 * k + 3) q ≤ 20) ∧ ∀ w, w < 10 → (0 ≤ hI σ (37 + w) 0 ∧ hI σ (37 + w) 0 ≤ 3) ∧ (0 ≤ hI σ (37 + w) 1 ∧ hI σ (37 + w) 1 ≤ 20) ∧ (0 ≤ hI σ (37 + w) 2 ∧ hI σ (37 + w) 2 ≤ 100000) ∧ (0 ≤ hI σ (37 + w) 3 ∧ hI σ (37 + w) 3 ≤ 100) ∧ (-1 ≤ hI σ (37 + w) 4 ∧ hI σ (37 + w) 4 ≤ 11) ∧ (0 ≤ hI σ (37 + w) 5 ∧ hI σ (37 + w) 5 ≤ 9999)
def ltS (hands kind : Int) : Int := if hands = 0 then -1 else if kind = 2 then hands - 1 else 0
def lmF (mk : Nat → Int) : Nat → Int
  | 0 => -1
  | m + 1 => if 0 ≤ mk m then (m : Int) else lmF mk m
theorem lmF_s (mk : Nat → Int) (m : Nat) : lmF mk (m + 1) = if 0 ≤ mk m then (m : Int) else lmF mk m := rfl
theorem lmF_r (mk : Nat → Int) : ∀ m : Nat, -1 ≤ lmF mk m ∧ lmF mk m < (m : Int) ∧ (0 ≤ lmF mk m → 0 ≤ mk (lmF mk m).toNat)
  | 0 => ⟨Int.le_refl _, by show (-1 : Int) < 0; decide, fun h => absurd h (by show ¬ (0 : Int) ≤ -1; decide)⟩
  | m + 1 => by
    have ih := lmF_r mk m
    unfold lmF
    split
    · rename_i h
      refine ⟨by omega, by omega, fun _ => ?_⟩
      rw [Int.toNat_natCast]; exact h
    · exact ⟨ih.1, by omega, ih.2.2⟩
abbrev lmC (σ : am_HS) (k : Nat) : Int := lmF (fun t => hI σ (47 + 4 * k + 2) t) 3
abbrev ltC (σ : am_HS) (k : Nat) (kind : Int) : Int := ltS (hI σ (47 + 4 * k) 2) kind
abbrev shC (σ : am_HS) (k : Nat) : Int := cntS (fun q => hI σ (47 + 4 * k + 3) q) 6
/-- the latest hand-in has no mark -/
def wtC (σ : am_HS) (k : Nat) (kind : Int) : Prop := 0 ≤ ltC σ k kind ∧ ltC σ k kind < 3 ∧ hI σ (47 + 4 * k + 2) (ltC σ k kind).toNat < 0
def tkC (σ : am_HS) (k : Nat) (t : Int) : Int := if 0 ≤ t ∧ t < 3 then hI σ (47 + 4 * k + 1) t.toNat else 0
/-- a sheet's worth -/
def wvC (σ : am_HS) (k w : Nat) : Vl := if hI σ (47 + 4 * k) 1 ≠ 0 then vO else if hI σ (37 + w) 0 = 3 then (if shC σ k = 0 then vN 0 1 else nrm (sumS (fun q => hI σ (47 + 4 * k + 3) q) 6 * shrS (hI σ (37 + w) 3) (dayS (hI σ (47 + 4 * k + 1) 0) (hI σ (37 + w) 2) (hI σ (47 + 4 * k) 0))) (shC σ k * 100)) else nrm (bestS (fun t => hI σ (47 + 4 * k + 2) t) (fun t => shrS (hI σ (37 + w) 3) (dayS (hI σ (47 + 4 * k + 1) t) (hI σ (37 + w) 2) (hI σ (47 + 4 * k) 0))) 3) 100
theorem cc3_latest {D : Nat} (hD : 1 ≤ D) (σ : am_HS) {b k : Nat} (hf : σ.2.2 = cH b) (hs : k < 60) (kd : Int) (hh : 0 ≤ hI σ (47 + 4 * k) 2 ∧ hI σ (47 + 4 * k) 2 ≤ 100000) : am_Do lc D mX3_latest σ [vR (some (47 + 4 * k)), vI kd] (qI fun z s => z = ltC σ k kd ∧ s = σ) := by
  obtain ⟨d, rfl⟩ : ∃ d, D = d + 1 := ⟨D - 1, by omega⟩
  refine am_enter rfl rfl (Nat.le_of_ble_eq_true rfl) ?_
  refine g_aload_n dX3_latest_0 rfl ?_
  refine g_getI dX3_latest_1 tf_3_31 (lc_s hs) rfl ?_
  refine g_if_ne (tgt := 9) dX3_latest_4 (by decide) (fun c4 => ?_) (fun c4 => ?_)
  · refine g_iload_n dX3_latest_9 rfl ?_
    refine g_iconst dX3_latest_10 ⟨by decide, by decide⟩ ?_
    refine g_icmp_ne (tgt := 23) dX3_latest_11 (by decide) (fun c11 => ?_) (fun c11 => ?_)
    · refine g_iconst dX3_latest_23 ⟨by decide, by decide⟩ ?_
      refine g_ireturn dX3_latest_24 (Or.inl rfl) ⟨_, rfl, ?_⟩
      refine ⟨?_, rfl⟩
      unfold ltC ltS
      first
        | (rw [if_pos (by omega)]; done)
        | (rw [if_neg (by omega), if_pos (by omega)]; done)
        | (rw [if_neg (by omega), if_neg (by omega)]; done)
    · refine g_aload_n dX3_latest_14 rfl ?_
      refine g_getI dX3_latest_15 tf_3_31 (lc_s hs) rfl ?_
      refine g_iconst dX3_latest_18 ⟨by decide, by decide⟩ ?_
      refine g_isub dX3_latest_19 rfl ⟨by omega, by omega⟩ ?_
      refine g_goto (tgt := 24) dX3_latest_20 (by decide) ?_
      refine g_ireturn dX3_latest_24 (Or.inl rfl) ⟨_, rfl, ?_⟩
      refine ⟨?_, rfl⟩
      unfold ltC ltS
      first
        | (rw [if_pos (by omega)]; done)
        | (rw [if_neg (by omega), if_pos (by omega)]; done)
        | (rw [if_neg (by omega), if_neg (by omega)]; done)
  · refine g_iconst dX3_latest_7 ⟨by decide, by decide⟩ ?_
    refine g_ireturn dX3_latest_8 (Or.inl rfl) ⟨_, rfl, ?_⟩
    refine ⟨?_, rfl⟩
    unfold ltC ltS
    first
      | (rw [if_pos (by omega)]; done)
      | (rw [if_neg (by omega), if_pos (by omega)]; done)
      | (rw [if_neg (by omega), if_neg (by omega)]; done)

theorem cc3_isSlot {D : Nat} (hD : 1 ≤ D) (σ : am_HS) {b k : Nat} (hf : σ.2.2 = cH b) (hs : k < 60) (t : Int) : am_Do lc D mX3_isSlot σ [vR (some (47 + 4 * k)), vI t] (qI fun z s => (z = 1 ∧ (0 ≤ t ∧ t < 3) ∨ z = 0 ∧ ¬ (0 ≤ t ∧ t < 3)) ∧ s = σ) := by
  obtain ⟨d, rfl⟩ : ∃ d, D = d + 1 := ⟨D - 1, by omega⟩
  refine am_enter rfl rfl (Nat.le_of_ble_eq_true rfl) ?_
  refine g_iload_n dX3_isSlot_0 rfl ?_
  refine g_if_lt (tgt := 31) dX3_isSlot_1 (by decide) (fun c1 => ?_) (fun c1 => ?_)
  · refine g_iconst dX3_isSlot_31 ⟨by decide, by decide⟩ ?_
    refine g_ireturn dX3_isSlot_32 (Or.inr ⟨rfl, by omega⟩) ⟨_, rfl, ?_⟩
    exact ⟨by omega, rfl⟩
  · refine g_iload_n dX3_isSlot_4 rfl ?_
    refine g_iconst dX3_isSlot_5 ⟨by decide, by decide⟩ ?_
    refine g_icmp_ge (tgt := 31) dX3_isSlot_6 (by decide) (fun c6 => ?_) (fun c6 => ?_)
    · refine g_iconst dX3_isSlot_31 ⟨by decide, by decide⟩ ?_
      refine g_ireturn dX3_isSlot_32 (Or.inr ⟨rfl, by omega⟩) ⟨_, rfl, ?_⟩
      exact ⟨by omega, rfl⟩
    · refine g_iload_n dX3_isSlot_9 rfl ?_
      refine g_aload_n dX3_isSlot_10 rfl ?_
      refine g_getA dX3_isSlot_11 tf_3_19 (lc_s hs) rfl (crs5 hf hs) ?_
      refine g_alen dX3_isSlot_14 (lc_s5 hs) (by decide) ?_
      refine g_icmp_ge (tgt := 31) dX3_isSlot_15 (by decide) (fun c15 => ?_) (fun c15 => ?_)
      · refine g_iconst dX3_isSlot_31 ⟨by decide, by decide⟩ ?_
        refine g_ireturn dX3_isSlot_32 (Or.inr ⟨rfl, by omega⟩) ⟨_, rfl, ?_⟩
        exact ⟨by omega, rfl⟩
      · refine g_iload_n dX3_isSlot_18 rfl ?_
        refine g_aload_n dX3_isSlot_19 rfl ?_
        refine g_getA dX3_isSlot_20 tf_3_15 (lc_s hs) rfl (crs4 hf hs) ?_
        refine g_alen dX3_isSlot_23 (lc_s4 hs) (by decide) ?_
        refine g_icmp_ge (tgt := 31) dX3_isSlot_24 (by decide) (fun c24 => ?_) (fun c24 => ?_)
        · refine g_iconst dX3_isSlot_31 ⟨by decide, by decide⟩ ?_
          refine g_ireturn dX3_isSlot_32 (Or.inr ⟨rfl, by omega⟩) ⟨_, rfl, ?_⟩
          exact ⟨by omega, rfl⟩
        · refine g_iconst dX3_isSlot_27 ⟨by decide, by decide⟩ ?_
          refine g_goto (tgt := 32) dX3_isSlot_28 (by decide) ?_
          refine g_ireturn dX3_isSlot_32 (Or.inr ⟨rfl, by omega⟩) ⟨_, rfl, ?_⟩
          exact ⟨by omega, rfl⟩

theorem cc3_tickOf {D : Nat} (hD : 1 ≤ D) (σ : am_HS) {b k : Nat} (hf : σ.2.2 = cH b) (hs : k < 60) (t : Int) : am_Do lc D mX3_tickOf σ [vR (some (47 + 4 * k)), vI t] (qI fun z s => z = tkC σ k t ∧ s = σ) := by
  obtain ⟨d, rfl⟩ : ∃ d, D = d + 1 := ⟨D - 1, by omega⟩
  refine am_enter rfl rfl (Nat.le_of_ble_eq_true rfl) ?_
  refine g_iload_n dX3_tickOf_0 rfl ?_
  refine g_if_lt (tgt := 22) dX3_tickOf_1 (by decide) (fun c1 => ?_) (fun c1 => ?_)
  · refine g_iconst dX3_tickOf_22 ⟨by decide, by decide⟩ ?_
    refine g_ireturn dX3_tickOf_23 (Or.inl rfl) ⟨_, rfl, ?_⟩
    refine ⟨?_, rfl⟩
    unfold tkC
    first
      | (rw [if_pos (by omega)]; done)
      | (rw [if_neg (by omega)]; done)
  · refine g_iload_n dX3_tickOf_4 rfl ?_
    refine g_aload_n dX3_tickOf_5 rfl ?_
    refine g_getA dX3_tickOf_6 tf_3_15 (lc_s hs) rfl (crs4 hf hs) ?_
    refine g_alen dX3_tickOf_9 (lc_s4 hs) (by decide) ?_
    refine g_icmp_ge (tgt := 22) dX3_tickOf_10 (by decide) (fun c10 => ?_) (fun c10 => ?_)
    · refine g_iconst dX3_tickOf_22 ⟨by decide, by decide⟩ ?_
      refine g_ireturn dX3_tickOf_23 (Or.inl rfl) ⟨_, rfl, ?_⟩
      refine ⟨?_, rfl⟩
      unfold tkC
      first
        | (rw [if_pos (by omega)]; done)
        | (rw [if_neg (by omega)]; done)
    · refine g_aload_n dX3_tickOf_13 rfl ?_
      refine g_getA dX3_tickOf_14 tf_3_15 (lc_s hs) rfl (crs4 hf hs) ?_
      refine g_iload_n dX3_tickOf_17 rfl ?_
      refine g_ialdN (t.toNat) dX3_tickOf_18 (lc_s4 hs) (by omega) (by omega) ?_
      refine g_goto (tgt := 23) dX3_tickOf_19 (by decide) ?_
      refine g_ireturn dX3_tickOf_23 (Or.inl rfl) ⟨_, rfl, ?_⟩
      refine ⟨?_, rfl⟩
      unfold tkC
      first
        | (rw [if_pos (by omega)]; done)
        | (rw [if_neg (by omega)]; done)

theorem cc3_lastMarked {D : Nat} (hD : 1 ≤ D) (σ : am_HS) {b k : Nat} (hf : σ.2.2 = cH b) (hs : k < 60) : am_Do lc D mX3_lastMarked σ [vR (some (47 + 4 * k))] (qI fun z s => z = lmC σ k ∧ s = σ) := by
  obtain ⟨d, rfl⟩ : ∃ d, D = d + 1 := ⟨D - 1, by omega⟩
  refine am_enter rfl rfl (Nat.le_of_ble_eq_true rfl) ?_
  have loop : ∀ (m : Nat) (t : Int), m ≤ 3 → t = (m : Int) - 1 → lmF (fun t => hI σ (47 + 4 * k + 2) t) m = lmC σ k → am_Go lc d 3 2 1 cX3_lastMarked 8 [some (vR (some (47 + 4 * k))), some (vI t)] [] σ (qI fun z s => z = lmC σ k ∧ s = σ) := by
    intro m
    induction m with
    | zero =>
      intro t hm ht he
      refine g_iload_n dX3_lastMarked_8 rfl ?_
      refine g_if_lt (tgt := 29) dX3_lastMarked_9 (by decide) (fun c9 => ?_) (fun c9 => ?_)
      · refine g_iconst dX3_lastMarked_29 ⟨by decide, by decide⟩ ?_
        refine g_ireturn dX3_lastMarked_30 (Or.inl rfl) ⟨_, rfl, ?_⟩
        exact ⟨he, rfl⟩
      · exfalso; omega
    | succ m ih =>
      intro t hm ht he
      rw [lmF_s] at he
      refine g_iload_n dX3_lastMarked_8 rfl ?_
      refine g_if_lt (tgt := 29) dX3_lastMarked_9 (by decide) (fun c9 => ?_) (fun c9 => ?_)
      · exfalso; omega
      · refine g_aload_n dX3_lastMarked_12 rfl ?_
        refine g_getA dX3_lastMarked_13 tf_3_19 (lc_s hs) rfl (crs5 hf hs) ?_
        refine g_iload_n dX3_lastMarked_16 rfl ?_
        refine g_ialdN (m) dX3_lastMarked_17 (lc_s5 hs) (by omega) (by omega) ?_
        refine g_if_lt (tgt := 23) dX3_lastMarked_18 (by decide) (fun c18 => ?_) (fun c18 => ?_)
        · rw [if_neg (by omega)] at he
          refine g_iinc dX3_lastMarked_23 (by decide) rfl ⟨by omega, by omega⟩ rfl rfl ?_
          refine g_goto (tgt := 8) dX3_lastMarked_26 (by decide) ?_
          exact ih _ (by omega) (by omega) he
        · rw [if_pos (by omega)] at he
          refine g_iload_n dX3_lastMarked_21 rfl ?_
          refine g_ireturn dX3_lastMarked_22 (Or.inl rfl) ⟨_, rfl, ?_⟩
          exact ⟨by omega, rfl⟩
  refine g_aload_n dX3_lastMarked_0 rfl ?_
  refine g_getA dX3_lastMarked_1 tf_3_19 (lc_s hs) rfl (crs5 hf hs) ?_
  refine g_alen dX3_lastMarked_4 (lc_s5 hs) (by decide) ?_
  refine g_iconst dX3_lastMarked_5 ⟨by decide, by decide⟩ ?_
  refine g_isub dX3_lastMarked_6 rfl ⟨by omega, by omega⟩ ?_
  refine g_istore_n dX3_lastMarked_7 (by decide) rfl ?_
  exact loop 3 _ (by omega) (by omega) rfl
theorem cc3_waits {D : Nat} (hD : 2 ≤ D) (σ : am_HS) {b k : Nat} (hf : σ.2.2 = cH b) (hs : k < 60) (kd : Int) (hh : 0 ≤ hI σ (47 + 4 * k) 2 ∧ hI σ (47 + 4 * k) 2 ≤ 100000) : am_Do lc D mX3_waits σ [vR (some (47 + 4 * k)), vI kd] (qI fun z s => (z = 1 ∧ wtC σ k kd ∨ z = 0 ∧ ¬ wtC σ k kd) ∧ s = σ) := by
  obtain ⟨d, rfl⟩ : ∃ d, D = d + 1 := ⟨D - 1, by omega⟩
  refine am_enter rfl rfl (Nat.le_of_ble_eq_true rfl) ?_
  refine g_aload_n dX3_waits_0 rfl ?_
  refine g_iload_n dX3_waits_1 rfl ?_
  refine g_callvI dX3_waits_2 tm_3_34 rfl ⟨rfl, rfl⟩ (lc_s hs) (Nat.le_of_ble_eq_true rfl) (cc3_latest (by omega) σ hf hs _ hh) (fun z2 s2 h2 => ?_)
  obtain ⟨rfl, e2⟩ := h2
  obtain rfl := e2.symm
  refine g_istore_n dX3_waits_5 (by decide) rfl ?_
  refine g_aload_n dX3_waits_6 rfl ?_
  refine g_iload_n dX3_waits_7 rfl ?_
  refine g_callvI dX3_waits_8 tm_3_38 rfl ⟨rfl, rfl⟩ (lc_s hs) (Nat.le_of_ble_eq_true rfl) (cc3_isSlot (by omega) _ hf hs _) (fun z8 s8 h8 => ?_)
  obtain ⟨h8, e8⟩ := h8
  obtain rfl := e8.symm
  refine g_if_eq (tgt := 27) dX3_waits_11 (by decide) (fun c11 => ?_) (fun c11 => ?_)
  · refine g_iconst dX3_waits_27 ⟨by decide, by decide⟩ ?_
    refine g_ireturn dX3_waits_28 (Or.inr ⟨rfl, by omega⟩) ⟨_, rfl, ?_⟩
    refine ⟨?_, rfl⟩
    unfold wtC
    first
      | exact Or.inl ⟨rfl, by omega, by omega, by omega⟩
      | exact Or.inr ⟨rfl, fun h => by omega⟩
  · refine g_aload_n dX3_waits_14 rfl ?_
    refine g_getA dX3_waits_15 tf_3_19 (lc_s hs) rfl (crs5 hf hs) ?_
    refine g_iload_n dX3_waits_18 rfl ?_
    refine g_ialdN ((ltC σ k kd).toNat) dX3_waits_19 (lc_s5 hs) (by omega) (by omega) ?_
    refine g_if_ge (tgt := 27) dX3_waits_20 (by decide) (fun c20 => ?_) (fun c20 => ?_)
    · refine g_iconst dX3_waits_27 ⟨by decide, by decide⟩ ?_
      refine g_ireturn dX3_waits_28 (Or.inr ⟨rfl, by omega⟩) ⟨_, rfl, ?_⟩
      refine ⟨?_, rfl⟩
      unfold wtC
      first
        | exact Or.inl ⟨rfl, by omega, by omega, by omega⟩
        | exact Or.inr ⟨rfl, fun h => by omega⟩
    · refine g_iconst dX3_waits_23 ⟨by decide, by decide⟩ ?_
      refine g_goto (tgt := 28) dX3_waits_24 (by decide) ?_
      refine g_ireturn dX3_waits_28 (Or.inr ⟨rfl, by omega⟩) ⟨_, rfl, ?_⟩
      refine ⟨?_, rfl⟩
      unfold wtC
      first
        | exact Or.inl ⟨rfl, by omega, by omega, by omega⟩
        | exact Or.inr ⟨rfl, fun h => by omega⟩

/-- one more hand-in is allowed -/
def tmC (σ : am_HS) (k : Nat) (kd : Int) : Prop := if kd = 2 then hI σ (47 + 4 * k) 2 < 3 ∧ ¬ wtC σ k kd else if kd = 3 then hI σ (47 + 4 * k) 2 = 0 else lmC σ k < 0
/-- behind a hand-in -/
def adC (σ : am_HS) (k : Nat) (kd tick who : Int) : am_HS := if 0 ≤ ltS (hI σ (47 + 4 * k) 2 + 1) kd ∧ ltS (hI σ (47 + 4 * k) 2 + 1) kd < 3 then uI (uI (uI σ (47 + 4 * k) 2 (hI σ (47 + 4 * k) 2 + 1)) (47 + 4 * k) 3 who) (47 + 4 * k + 1) (ltS (hI σ (47 + 4 * k) 2 + 1) kd).toNat tick else uI (uI σ (47 + 4 * k) 2 (hI σ (47 + 4 * k) 2 + 1)) (47 + 4 * k) 3 who
theorem cc3_takesMore {D : Nat} (hD : 3 ≤ D) (σ : am_HS) {b k : Nat} (hf : σ.2.2 = cH b) (hs : k < 60) (kd : Int) (hh : 0 ≤ hI σ (47 + 4 * k) 2 ∧ hI σ (47 + 4 * k) 2 ≤ 100000) : am_Do lc D mX3_takesMore σ [vR (some (47 + 4 * k)), vI kd] (qI fun z s => (z = 1 ∧ tmC σ k kd ∨ z = 0 ∧ ¬ tmC σ k kd) ∧ s = σ) := by
  obtain ⟨d, rfl⟩ : ∃ d, D = d + 1 := ⟨D - 1, by omega⟩
  refine am_enter rfl rfl (Nat.le_of_ble_eq_true rfl) ?_
  refine g_iload_n dX3_takesMore_0 rfl ?_
  by_cases k2 : kd = 2
  · refine g_lookup dX3_takesMore_1 (by decide) ⟨27, 28, by rw [k2]; decide, by decide, ?_⟩
    refine g_aload_n dX3_takesMore_28 rfl ?_
    refine g_getI dX3_takesMore_29 tf_3_31 (lc_s hs) rfl ?_
    refine g_iconst dX3_takesMore_32 ⟨by decide, by decide⟩ ?_
    refine g_icmp_ge (tgt := 48) dX3_takesMore_33 (by decide) (fun c33 => ?_) (fun c33 => ?_)
    · refine g_iconst dX3_takesMore_48 ⟨by decide, by decide⟩ ?_
      refine g_ireturn dX3_takesMore_49 (Or.inr ⟨rfl, by omega⟩) ⟨_, rfl, ?_⟩
      refine ⟨?_, rfl⟩
      unfold tmC
      first
        | (rw [if_pos k2]
           first
             | exact Or.inl ⟨rfl, by omega, by rcases h38 with ⟨a, b⟩ | ⟨a, b⟩; exact absurd (a.symm.trans (Classical.not_not.mp c41)) (by decide); exact b⟩
             | exact Or.inr ⟨rfl, fun h => by rcases h38 with ⟨a, b⟩ | ⟨a, b⟩; exact h.2 b; exact absurd a c41⟩
             | exact Or.inr ⟨rfl, fun h => by omega⟩)
        | (rw [if_neg k2, if_pos k3]; omega)
        | (rw [if_neg k2, if_neg k3]; omega)
    · refine g_aload_n dX3_takesMore_36 rfl ?_
      refine g_iload_n dX3_takesMore_37 rfl ?_
      refine g_callvI dX3_takesMore_38 tm_3_42 rfl ⟨rfl, rfl⟩ (lc_s hs) (Nat.le_of_ble_eq_true rfl) (cc3_waits (by omega) σ hf hs _ hh) (fun z38 s38 h38 => ?_)
      obtain ⟨h38, e38⟩ := h38
      obtain rfl := e38.symm
      refine g_if_ne (tgt := 48) dX3_takesMore_41 (by decide) (fun c41 => ?_) (fun c41 => ?_)
      · refine g_iconst dX3_takesMore_48 ⟨by decide, by decide⟩ ?_
        refine g_ireturn dX3_takesMore_49 (Or.inr ⟨rfl, by omega⟩) ⟨_, rfl, ?_⟩
        refine ⟨?_, rfl⟩
        unfold tmC
        first
          | (rw [if_pos k2]
             first
               | exact Or.inl ⟨rfl, by omega, by rcases h38 with ⟨a, b⟩ | ⟨a, b⟩; exact absurd (a.symm.trans (Classical.not_not.mp c41)) (by decide); exact b⟩
               | exact Or.inr ⟨rfl, fun h => by rcases h38 with ⟨a, b⟩ | ⟨a, b⟩; exact h.2 b; exact absurd a c41⟩
               | exact Or.inr ⟨rfl, fun h => by omega⟩)
          | (rw [if_neg k2, if_pos k3]; omega)
          | (rw [if_neg k2, if_neg k3]; omega)
      · refine g_iconst dX3_takesMore_44 ⟨by decide, by decide⟩ ?_
        refine g_goto (tgt := 49) dX3_takesMore_45 (by decide) ?_
        refine g_ireturn dX3_takesMore_49 (Or.inr ⟨rfl, by omega⟩) ⟨_, rfl, ?_⟩
        refine ⟨?_, rfl⟩
        unfold tmC
        first
          | (rw [if_pos k2]
             first
               | exact Or.inl ⟨rfl, by omega, by rcases h38 with ⟨a, b⟩ | ⟨a, b⟩; exact absurd (a.symm.trans (Classical.not_not.mp c41)) (by decide); exact b⟩
               | exact Or.inr ⟨rfl, fun h => by rcases h38 with ⟨a, b⟩ | ⟨a, b⟩; exact h.2 b; exact absurd a c41⟩
               | exact Or.inr ⟨rfl, fun h => by omega⟩)
          | (rw [if_neg k2, if_pos k3]; omega)
          | (rw [if_neg k2, if_neg k3]; omega)
  · by_cases k3 : kd = 3
    · refine g_lookup dX3_takesMore_1 (by decide) ⟨49, 50, by rw [k3]; decide, by decide, ?_⟩
      refine g_aload_n dX3_takesMore_50 rfl ?_
      refine g_getI dX3_takesMore_51 tf_3_31 (lc_s hs) rfl ?_
      refine g_if_ne (tgt := 61) dX3_takesMore_54 (by decide) (fun c54 => ?_) (fun c54 => ?_)
      · refine g_iconst dX3_takesMore_61 ⟨by decide, by decide⟩ ?_
        refine g_ireturn dX3_takesMore_62 (Or.inr ⟨rfl, by omega⟩) ⟨_, rfl, ?_⟩
        refine ⟨?_, rfl⟩
        unfold tmC
        first
          | (rw [if_pos k2]
             first
               | exact Or.inl ⟨rfl, by omega, by rcases h38 with ⟨a, b⟩ | ⟨a, b⟩; exact absurd (a.symm.trans (Classical.not_not.mp c41)) (by decide); exact b⟩
               | exact Or.inr ⟨rfl, fun h => by rcases h38 with ⟨a, b⟩ | ⟨a, b⟩; exact h.2 b; exact absurd a c41⟩
               | exact Or.inr ⟨rfl, fun h => by omega⟩)
          | (rw [if_neg k2, if_pos k3]; omega)
          | (rw [if_neg k2, if_neg k3]; omega)
      · refine g_iconst dX3_takesMore_57 ⟨by decide, by decide⟩ ?_
        refine g_goto (tgt := 62) dX3_takesMore_58 (by decide) ?_
        refine g_ireturn dX3_takesMore_62 (Or.inr ⟨rfl, by omega⟩) ⟨_, rfl, ?_⟩
        refine ⟨?_, rfl⟩
        unfold tmC
        first
          | (rw [if_pos k2]
             first
               | exact Or.inl ⟨rfl, by omega, by rcases h38 with ⟨a, b⟩ | ⟨a, b⟩; exact absurd (a.symm.trans (Classical.not_not.mp c41)) (by decide); exact b⟩
               | exact Or.inr ⟨rfl, fun h => by rcases h38 with ⟨a, b⟩ | ⟨a, b⟩; exact h.2 b; exact absurd a c41⟩
               | exact Or.inr ⟨rfl, fun h => by omega⟩)
          | (rw [if_neg k2, if_pos k3]; omega)
          | (rw [if_neg k2, if_neg k3]; omega)
    · refine g_lookup dX3_takesMore_1 (by decide) ⟨62, 63, by simp [Op.lookupswitch.offset, k2, k3, Ne.symm k2, Ne.symm k3], by decide, ?_⟩
      refine g_aload_n dX3_takesMore_63 rfl ?_
      refine g_callvI dX3_takesMore_64 tm_3_45 rfl ⟨rfl, rfl⟩ (lc_s hs) (Nat.le_of_ble_eq_true rfl) (cc3_lastMarked (by omega) σ hf hs) (fun z64 s64 h64 => ?_)
      obtain ⟨rfl, e64⟩ := h64
      obtain rfl := e64.symm
      refine g_if_ge (tgt := 74) dX3_takesMore_67 (by decide) (fun c67 => ?_) (fun c67 => ?_)
      · refine g_iconst dX3_takesMore_74 ⟨by decide, by decide⟩ ?_
        refine g_ireturn dX3_takesMore_75 (Or.inr ⟨rfl, by omega⟩) ⟨_, rfl, ?_⟩
        refine ⟨?_, rfl⟩
        unfold tmC
        first
          | (rw [if_pos k2]
             first
               | exact Or.inl ⟨rfl, by omega, by rcases h38 with ⟨a, b⟩ | ⟨a, b⟩; exact absurd (a.symm.trans (Classical.not_not.mp c41)) (by decide); exact b⟩
               | exact Or.inr ⟨rfl, fun h => by rcases h38 with ⟨a, b⟩ | ⟨a, b⟩; exact h.2 b; exact absurd a c41⟩
               | exact Or.inr ⟨rfl, fun h => by omega⟩)
          | (rw [if_neg k2, if_pos k3]; omega)
          | (rw [if_neg k2, if_neg k3]; omega)
      · refine g_iconst dX3_takesMore_70 ⟨by decide, by decide⟩ ?_
        refine g_goto (tgt := 75) dX3_takesMore_71 (by decide) ?_
        refine g_ireturn dX3_takesMore_75 (Or.inr ⟨rfl, by omega⟩) ⟨_, rfl, ?_⟩
        refine ⟨?_, rfl⟩
        unfold tmC
        first
          | (rw [if_pos k2]
             first
               | exact Or.inl ⟨rfl, by omega, by rcases h38 with ⟨a, b⟩ | ⟨a, b⟩; exact absurd (a.symm.trans (Classical.not_not.mp c41)) (by decide); exact b⟩
               | exact Or.inr ⟨rfl, fun h => by rcases h38 with ⟨a, b⟩ | ⟨a, b⟩; exact h.2 b; exact absurd a c41⟩
               | exact Or.inr ⟨rfl, fun h => by omega⟩)
          | (rw [if_neg k2, if_pos k3]; omega)
          | (rw [if_neg k2, if_neg k3]; omega)

theorem cc3_add {D : Nat} (hD : 2 ≤ D) (σ : am_HS) {b k : Nat} (hf : σ.2.2 = cH b) (hs : k < 60) (kd tick who : Int) (hh : 0 ≤ hI σ (47 + 4 * k) 2 ∧ hI σ (47 + 4 * k) 2 ≤ 90000) : am_Do lc D mX3_add σ [vR (some (47 + 4 * k)), vI kd, vI tick, vI who] (qV fun s => s = adC σ k kd tick who) := by
  obtain ⟨d, rfl⟩ : ∃ d, D = d + 1 := ⟨D - 1, by omega⟩
  refine am_enter rfl rfl (Nat.le_of_ble_eq_true rfl) ?_
  refine g_aload_n dX3_add_0 rfl ?_
  refine g_dup dX3_add_1 rfl ?_
  refine g_getI dX3_add_2 tf_3_31 (lc_s hs) rfl ?_
  refine g_iconst dX3_add_5 ⟨by decide, by decide⟩ ?_
  refine g_iadd dX3_add_6 rfl ⟨by omega, by omega⟩ ?_
  refine g_putI dX3_add_7 tf_3_31 (lc_s hs) rfl rfl ?_
  refine g_aload_n dX3_add_10 rfl ?_
  refine g_iload_n dX3_add_11 rfl ?_
  refine g_putI dX3_add_12 tf_3_9 (lc_s hs) rfl rfl ?_
  refine g_aload_n dX3_add_15 rfl ?_
  refine g_iload_n dX3_add_16 rfl ?_
  refine g_callvI dX3_add_17 tm_3_34 rfl ⟨rfl, rfl⟩ (lc_s hs) (Nat.le_of_ble_eq_true rfl) (cc3_latest (by omega) (uI (uI σ (47 + 4 * k) 2 (hI σ (47 + 4 * k) 2 + 1)) (47 + 4 * k) 3 who) hf hs _ (by rw [hI_uI_n (by omega), hI_uI_e ⟨by omega, by omega⟩]; omega)) (fun z17 s17 h17 => ?_)
  obtain ⟨hz, rfl⟩ := h17
  unfold ltC at hz
  rw [hI_uI_n (by omega), hI_uI_e ⟨by omega, by omega⟩] at hz
  subst hz
  refine g_istore dX3_add_20 (by decide) rfl ?_
  refine g_aload_n dX3_add_22 rfl ?_
  refine g_iload dX3_add_23 rfl ?_
  refine g_callvI dX3_add_25 tm_3_38 rfl ⟨rfl, rfl⟩ (lc_s hs) (Nat.le_of_ble_eq_true rfl) (cc3_isSlot (by omega) (uI (uI σ (47 + 4 * k) 2 (hI σ (47 + 4 * k) 2 + 1)) (47 + 4 * k) 3 who) hf hs _) (fun z25 s25 h25 => ?_)
  obtain ⟨h25, rfl⟩ := h25
  refine g_if_eq (tgt := 39) dX3_add_28 (by decide) (fun c28 => ?_) (fun c28 => ?_)
  · refine g_return dX3_add_39 rfl ⟨rfl, ?_⟩
    unfold adC
    first
      | (rw [if_pos (by omega)]; done)
      | (rw [if_neg (by omega)]; done)
  · refine g_aload_n dX3_add_31 rfl ?_
    refine g_getA dX3_add_32 tf_3_15 (lc_s hs) rfl (crs4 hf hs) ?_
    refine g_iload dX3_add_35 rfl ?_
    refine g_iload_n dX3_add_37 rfl ?_
    refine g_iastN ((ltS (hI σ (47 + 4 * k) 2 + 1) kd).toNat) dX3_add_38 (lc_s4 hs) (by omega) (by omega) ?_
    refine g_return dX3_add_39 rfl ⟨rfl, ?_⟩
    unfold adC
    first
      | (rw [if_pos (by omega)]; done)
      | (rw [if_neg (by omega)]; done)

theorem cc3_put {D : Nat} (hD : 2 ≤ D) (σ : am_HS) {b k : Nat} (hf : σ.2.2 = cH b) (hs : k < 60) (t : Nat) (ht : t < 3) (v : Int) : am_Do lc D mX3_put σ [vR (some (47 + 4 * k)), vI (t : Int), vI v] (qI fun z s => z = hI σ (47 + 4 * k + 2) t ∧ s = uI σ (47 + 4 * k + 2) t v) := by
  obtain ⟨d, rfl⟩ : ∃ d, D = d + 1 := ⟨D - 1, by omega⟩
  refine am_enter rfl rfl (Nat.le_of_ble_eq_true rfl) ?_
  refine g_aload_n dX3_put_0 rfl ?_
  refine g_iload_n dX3_put_1 rfl ?_
  refine g_callvI dX3_put_2 tm_3_38 rfl ⟨rfl, rfl⟩ (lc_s hs) (Nat.le_of_ble_eq_true rfl) (cc3_isSlot (by omega) _ hf hs _) (fun z2 s2 h2 => ?_)
  obtain ⟨h2, e2⟩ := h2
  obtain rfl := e2.symm
  refine g_if_ne (tgt := 10) dX3_put_5 (by decide) (fun c5 => ?_) (fun c5 => ?_)
  · refine g_aload_n dX3_put_10 rfl ?_
    refine g_getA dX3_put_11 tf_3_19 (lc_s hs) rfl (crs5 hf hs) ?_
    refine g_iload_n dX3_put_14 rfl ?_
    refine g_ialdN (t) dX3_put_15 (lc_s5 hs) (by omega) (by omega) ?_
    refine g_istore_n dX3_put_16 (by decide) rfl ?_
    refine g_aload_n dX3_put_17 rfl ?_
    refine g_getA dX3_put_18 tf_3_19 (lc_s hs) rfl (crs5 hf hs) ?_
    refine g_iload_n dX3_put_21 rfl ?_
    refine g_iload_n dX3_put_22 rfl ?_
    refine g_iastN (t) dX3_put_23 (lc_s5 hs) (by omega) (by omega) ?_
    refine g_iload_n dX3_put_24 rfl ?_
    refine g_ireturn dX3_put_25 (Or.inl rfl) ⟨_, rfl, ?_⟩
    exact ⟨rfl, rfl⟩
  · exfalso; omega

theorem cc3_hasShown {D : Nat} (hD : 1 ≤ D) (σ : am_HS) {b k : Nat} (hf : σ.2.2 = cH b) (hs : k < 60) (t : Nat) (ht : t < 6) : am_Do lc D mX3_hasShown σ [vR (some (47 + 4 * k)), vI (t : Int)] (qI fun z s => (z = 1 ∧ 0 ≤ hI σ (47 + 4 * k + 3) t ∨ z = 0 ∧ hI σ (47 + 4 * k + 3) t < 0) ∧ s = σ) := by
  obtain ⟨d, rfl⟩ : ∃ d, D = d + 1 := ⟨D - 1, by omega⟩
  refine am_enter rfl rfl (Nat.le_of_ble_eq_true rfl) ?_
  refine g_iload_n dX3_hasShown_0 rfl ?_
  refine g_if_lt (tgt := 26) dX3_hasShown_1 (by decide) (fun c1 => ?_) (fun c1 => ?_)
  · exfalso; omega
  · refine g_iload_n dX3_hasShown_4 rfl ?_
    refine g_aload_n dX3_hasShown_5 rfl ?_
    refine g_getA dX3_hasShown_6 tf_3_22 (lc_s hs) rfl (crs6 hf hs) ?_
    refine g_alen dX3_hasShown_9 (lc_s6 hs) (by decide) ?_
    refine g_icmp_ge (tgt := 26) dX3_hasShown_10 (by decide) (fun c10 => ?_) (fun c10 => ?_)
    · exfalso; omega
    · refine g_aload_n dX3_hasShown_13 rfl ?_
      refine g_getA dX3_hasShown_14 tf_3_22 (lc_s hs) rfl (crs6 hf hs) ?_
      refine g_iload_n dX3_hasShown_17 rfl ?_
      refine g_ialdN (t) dX3_hasShown_18 (lc_s6 hs) (by omega) (by omega) ?_
      refine g_if_lt (tgt := 26) dX3_hasShown_19 (by decide) (fun c19 => ?_) (fun c19 => ?_)
      · refine g_iconst dX3_hasShown_26 ⟨by decide, by decide⟩ ?_
        refine g_ireturn dX3_hasShown_27 (Or.inr ⟨rfl, by omega⟩) ⟨_, rfl, ?_⟩
        exact ⟨by omega, rfl⟩
      · refine g_iconst dX3_hasShown_22 ⟨by decide, by decide⟩ ?_
        refine g_goto (tgt := 27) dX3_hasShown_23 (by decide) ?_
        refine g_ireturn dX3_hasShown_27 (Or.inr ⟨rfl, by omega⟩) ⟨_, rfl, ?_⟩
        exact ⟨by omega, rfl⟩

theorem cc3_shownMarks {D : Nat} (hD : 1 ≤ D) (σ : am_HS) {b k : Nat} (hf : σ.2.2 = cH b) (hs : k < 60) : am_Do lc D mX3_shownMarks σ [vR (some (47 + 4 * k))] (qI fun z s => z = shC σ k ∧ s = σ) := by
  obtain ⟨d, rfl⟩ : ∃ d, D = d + 1 := ⟨D - 1, by omega⟩
  refine am_enter rfl rfl (Nat.le_of_ble_eq_true rfl) ?_
  have loop : ∀ (m q : Nat), q + m = 6 → am_Go lc d 3 3 1 cX3_shownMarks 4 [some (vR (some (47 + 4 * k))), some (vI (cntS (fun q => hI σ (47 + 4 * k + 3) q) q)), some (vI (q : Int))] [] σ (qI fun z s => z = shC σ k ∧ s = σ) := by
    intro m
    induction m with
    | zero =>
      intro q hq
      have hq6 : q = 6 := by omega
      subst hq6
      refine g_iload_n dX3_shownMarks_4 rfl ?_
      refine g_aload_n dX3_shownMarks_5 rfl ?_
      refine g_getA dX3_shownMarks_6 tf_3_22 (lc_s hs) rfl (crs6 hf hs) ?_
      refine g_alen dX3_shownMarks_9 (lc_s6 hs) (by decide) ?_
      refine g_icmp_ge (tgt := 31) dX3_shownMarks_10 (by decide) (fun c10 => ?_) (fun c10 => ?_)
      · refine g_iload_n dX3_shownMarks_31 rfl ?_
        refine g_ireturn dX3_shownMarks_32 (Or.inl rfl) ⟨_, rfl, ?_⟩
        exact ⟨rfl, rfl⟩
      · exfalso; omega
    | succ m ih =>
      intro q hq
      have ih := ih (q + 1) (by omega)
      have b1 := cntS_r (fun q => hI σ (47 + 4 * k + 3) q) q
      unfold cntS at ih
      refine g_iload_n dX3_shownMarks_4 rfl ?_
      refine g_aload_n dX3_shownMarks_5 rfl ?_
      refine g_getA dX3_shownMarks_6 tf_3_22 (lc_s hs) rfl (crs6 hf hs) ?_
      refine g_alen dX3_shownMarks_9 (lc_s6 hs) (by decide) ?_
      refine g_icmp_ge (tgt := 31) dX3_shownMarks_10 (by decide) (fun c10 => ?_) (fun c10 => ?_)
      · exfalso; omega
      · refine g_aload_n dX3_shownMarks_13 rfl ?_
        refine g_getA dX3_shownMarks_14 tf_3_22 (lc_s hs) rfl (crs6 hf hs) ?_
        refine g_iload_n dX3_shownMarks_17 rfl ?_
        refine g_ialdN (q) dX3_shownMarks_18 (lc_s6 hs) (by omega) (by omega) ?_
        refine g_if_lt (tgt := 25) dX3_shownMarks_19 (by decide) (fun c19 => ?_) (fun c19 => ?_)
        · rw [if_neg (by omega)] at ih
          refine g_iinc dX3_shownMarks_25 (by decide) rfl ⟨by omega, by omega⟩ (show (q : Int) + 1 = ((q + 1 : Nat) : Int) from by omega) rfl ?_
          refine g_goto (tgt := 4) dX3_shownMarks_28 (by decide) ?_
          first
            | exact ih
            | (rw [Int.add_zero] at ih; exact ih)
        · rw [if_pos (by omega)] at ih
          refine g_iinc dX3_shownMarks_22 (by decide) rfl ⟨by omega, by omega⟩ rfl rfl ?_
          refine g_iinc dX3_shownMarks_25 (by decide) rfl ⟨by omega, by omega⟩ (show (q : Int) + 1 = ((q + 1 : Nat) : Int) from by omega) rfl ?_
          refine g_goto (tgt := 4) dX3_shownMarks_28 (by decide) ?_
          first
            | exact ih
            | (rw [Int.add_zero] at ih; exact ih)
  refine g_iconst dX3_shownMarks_0 ⟨by decide, by decide⟩ ?_
  refine g_istore_n dX3_shownMarks_1 (by decide) rfl ?_
  refine g_iconst dX3_shownMarks_2 ⟨by decide, by decide⟩ ?_
  refine g_istore_n dX3_shownMarks_3 (by decide) rfl ?_
  exact loop 6 0 rfl
theorem cc3_putShown {D : Nat} (hD : 2 ≤ D) (σ : am_HS) {b k : Nat} (hf : σ.2.2 = cH b) (hs : k < 60) (t : Nat) (ht : t < 6) (v : Int) : am_Do lc D mX3_putShown σ [vR (some (47 + 4 * k)), vI (t : Int), vI v] (qI fun z s => z = shC s k ∧ s = uI σ (47 + 4 * k + 3) t v) := by
  obtain ⟨d, rfl⟩ : ∃ d, D = d + 1 := ⟨D - 1, by omega⟩
  refine am_enter rfl rfl (Nat.le_of_ble_eq_true rfl) ?_
  refine g_iload_n dX3_putShown_0 rfl ?_
  refine g_if_lt (tgt := 20) dX3_putShown_1 (by decide) (fun c1 => ?_) (fun c1 => ?_)
  · exfalso; omega
  · refine g_iload_n dX3_putShown_4 rfl ?_
    refine g_aload_n dX3_putShown_5 rfl ?_
    refine g_getA dX3_putShown_6 tf_3_22 (lc_s hs) rfl (crs6 hf hs) ?_
    refine g_alen dX3_putShown_9 (lc_s6 hs) (by decide) ?_
    refine g_icmp_ge (tgt := 20) dX3_putShown_10 (by decide) (fun c10 => ?_) (fun c10 => ?_)
    · exfalso; omega
    · refine g_aload_n dX3_putShown_13 rfl ?_
      refine g_getA dX3_putShown_14 tf_3_22 (lc_s hs) rfl (crs6 hf hs) ?_
      refine g_iload_n dX3_putShown_17 rfl ?_
      refine g_iload_n dX3_putShown_18 rfl ?_
      refine g_iastN (t) dX3_putShown_19 (lc_s6 hs) (by omega) (by omega) ?_
      refine g_aload_n dX3_putShown_20 rfl ?_
      refine g_callvI dX3_putShown_21 tm_3_49 rfl ⟨rfl, rfl⟩ (lc_s hs) (Nat.le_of_ble_eq_true rfl) (cc3_shownMarks (by omega) (uI σ (47 + 4 * k + 3) t v) hf hs) (fun z21 s21 h21 => ?_)
      obtain ⟨rfl, e21⟩ := h21
      obtain rfl := e21.symm
      refine g_ireturn dX3_putShown_24 (Or.inl rfl) ⟨_, rfl, ?_⟩
      exact ⟨rfl, rfl⟩

theorem cc3_isMarked {D : Nat} (hD : 2 ≤ D) (σ : am_HS) {b k : Nat} (hf : σ.2.2 = cH b) (hs : k < 60)  : am_Do lc D mX3_isMarked σ [vR (some (47 + 4 * k))] (qI fun z s => (z = 1 ∧ (0 ≤ lmC σ k ∨ 0 < shC σ k) ∨ z = 0 ∧ ¬ (0 ≤ lmC σ k ∨ 0 < shC σ k)) ∧ s = σ) := by
  obtain ⟨d, rfl⟩ : ∃ d, D = d + 1 := ⟨D - 1, by omega⟩
  refine am_enter rfl rfl (Nat.le_of_ble_eq_true rfl) ?_
  refine g_aload_n dX3_isMarked_0 rfl ?_
  refine g_callvI dX3_isMarked_1 tm_3_45 rfl ⟨rfl, rfl⟩ (lc_s hs) (Nat.le_of_ble_eq_true rfl) (cc3_lastMarked (by omega) σ hf hs) (fun z1 s1 h1 => ?_)
  obtain ⟨rfl, e1⟩ := h1
  obtain rfl := e1.symm
  refine g_if_ge (tgt := 14) dX3_isMarked_4 (by decide) (fun c4 => ?_) (fun c4 => ?_)
  · refine g_iconst dX3_isMarked_14 ⟨by decide, by decide⟩ ?_
    refine g_goto (tgt := 19) dX3_isMarked_15 (by decide) ?_
    refine g_ireturn dX3_isMarked_19 (Or.inr ⟨rfl, by omega⟩) ⟨_, rfl, ?_⟩
    exact ⟨by omega, rfl⟩
  · refine g_aload_n dX3_isMarked_7 rfl ?_
    refine g_callvI dX3_isMarked_8 tm_3_49 rfl ⟨rfl, rfl⟩ (lc_s hs) (Nat.le_of_ble_eq_true rfl) (cc3_shownMarks (by omega) _ hf hs) (fun z8 s8 h8 => ?_)
    obtain ⟨rfl, e8⟩ := h8
    obtain rfl := e8.symm
    refine g_if_le (tgt := 18) dX3_isMarked_11 (by decide) (fun c11 => ?_) (fun c11 => ?_)
    · refine g_iconst dX3_isMarked_18 ⟨by decide, by decide⟩ ?_
      refine g_ireturn dX3_isMarked_19 (Or.inr ⟨rfl, by omega⟩) ⟨_, rfl, ?_⟩
      exact ⟨by omega, rfl⟩
    · refine g_iconst dX3_isMarked_14 ⟨by decide, by decide⟩ ?_
      refine g_goto (tgt := 19) dX3_isMarked_15 (by decide) ?_
      refine g_ireturn dX3_isMarked_19 (Or.inr ⟨rfl, by omega⟩) ⟨_, rfl, ?_⟩
      exact ⟨by omega, rfl⟩

theorem cc3_days {D : Nat} (hD : 2 ≤ D) (σ : am_HS) {b k : Nat} (hf : σ.2.2 = cH b) (hs : k < 60) (hb : rgC σ) {w : Nat} (hw : w < 10) (t : Int) : am_Do lc D mX3_days σ [vR (some (47 + 4 * k)), vR (some (37 + w)), vI t] (qI fun z s => z = dayS (tkC σ k t) (hI σ (37 + w) 2) (hI σ (47 + 4 * k) 0) ∧ s = σ) := by
  have hr := hb.1 k hs
  have hrw := hb.2 w hw
  have ht : 0 ≤ tkC σ k t ∧ tkC σ k t ≤ 100000 := by
    unfold tkC
    split
    · exact (hr.2.2.2.2.1 t.toNat (by omega)).1
    · omega
  obtain ⟨d, rfl⟩ : ∃ d, D = d + 1 := ⟨D - 1, by omega⟩
  refine am_enter rfl rfl (Nat.le_of_ble_eq_true rfl) ?_
  refine g_aload_n dX3_days_0 rfl ?_
  refine g_iload_n dX3_days_1 rfl ?_
  refine g_callvI dX3_days_2 tm_3_52 rfl ⟨rfl, rfl⟩ (lc_s hs) (Nat.le_of_ble_eq_true rfl) (cc3_tickOf (by omega) σ hf hs _) (fun z2 s2 h2 => ?_)
  obtain ⟨rfl, e2⟩ := h2
  obtain rfl := e2.symm
  refine g_aload_n dX3_days_5 rfl ?_
  refine g_getI dX3_days_6 tf_3_55 (lc_w hw) rfl ?_
  refine g_isub dX3_days_9 rfl ⟨by omega, by omega⟩ ?_
  refine g_aload_n dX3_days_10 rfl ?_
  refine g_getI dX3_days_11 tf_3_60 (lc_s hs) rfl ?_
  refine g_isub dX3_days_14 rfl ⟨by omega, by omega⟩ ?_
  refine g_istore_n dX3_days_15 (by decide) rfl ?_
  refine g_iload_n dX3_days_16 rfl ?_
  refine g_if_gt (tgt := 24) dX3_days_17 (by decide) (fun c17 => ?_) (fun c17 => ?_)
  · refine g_iload_n dX3_days_24 rfl ?_
    refine g_bipush dX3_days_25 (by decide) ?_
    refine g_iadd dX3_days_27 rfl ⟨by omega, by omega⟩ ?_
    refine g_iconst dX3_days_28 ⟨by decide, by decide⟩ ?_
    refine g_isub dX3_days_29 rfl ⟨by omega, by omega⟩ ?_
    refine g_bipush dX3_days_30 (by decide) ?_
    refine g_idiv dX3_days_32 (by omega) (Int.tdiv_eq_ediv_of_nonneg (by omega)) ⟨by omega, by omega⟩ ?_
    refine g_ireturn dX3_days_33 (Or.inl rfl) ⟨_, rfl, ?_⟩
    refine ⟨?_, rfl⟩
    unfold dayS
    first
      | (rw [if_pos (by omega)]; done)
      | (rw [if_neg (by omega)]; congr 1; omega)
  · refine g_iconst dX3_days_20 ⟨by decide, by decide⟩ ?_
    refine g_goto (tgt := 33) dX3_days_21 (by decide) ?_
    refine g_ireturn dX3_days_33 (Or.inl rfl) ⟨_, rfl, ?_⟩
    refine ⟨?_, rfl⟩
    unfold dayS
    first
      | (rw [if_pos (by omega)]; done)
      | (rw [if_neg (by omega)]; congr 1; omega)

theorem cc3_share {D : Nat} (hD : 3 ≤ D) (σ : am_HS) {b k : Nat} (hf : σ.2.2 = cH b) (hs : k < 60) (hb : rgC σ) {w : Nat} (hw : w < 10) (t : Int) : am_Do lc D mX3_share σ [vR (some (47 + 4 * k)), vR (some (37 + w)), vI t] (qI fun z s => z = shrS (hI σ (37 + w) 3) (dayS (tkC σ k t) (hI σ (37 + w) 2) (hI σ (47 + 4 * k) 0)) ∧ s = σ) := by
  have hr := hb.1 k hs
  have hrw := hb.2 w hw
  have ht : 0 ≤ tkC σ k t ∧ tkC σ k t ≤ 100000 := by
    unfold tkC
    split
    · exact (hr.2.2.2.2.1 t.toNat (by omega)).1
    · omega
  have hd1 := dayS_r ht hrw.2.2.1.1 hr.1.1
  have hm1 := mul_bd hrw.2.2.2.1 hd1
  obtain ⟨d, rfl⟩ : ∃ d, D = d + 1 := ⟨D - 1, by omega⟩
  refine am_enter rfl rfl (Nat.le_of_ble_eq_true rfl) ?_
  refine g_bipush dX3_share_0 (by decide) ?_
  refine g_aload_n dX3_share_2 rfl ?_
  refine g_getI dX3_share_3 tf_3_63 (lc_w hw) rfl ?_
  refine g_aload_n dX3_share_6 rfl ?_
  refine g_aload_n dX3_share_7 rfl ?_
  refine g_iload_n dX3_share_8 rfl ?_
  refine g_callvI dX3_share_9 tm_3_66 rfl ⟨rfl, rfl⟩ (lc_s hs) (Nat.le_of_ble_eq_true rfl) (cc3_days (by omega) σ hf hs hb hw t) (fun z9 s9 h9 => ?_)
  obtain ⟨rfl, e9⟩ := h9
  obtain rfl := e9.symm
  refine g_imul dX3_share_12 rfl ⟨by omega, by omega⟩ ?_
  refine g_isub dX3_share_13 rfl ⟨by omega, by omega⟩ ?_
  refine g_istore_n dX3_share_14 (by decide) rfl ?_
  refine g_iload_n dX3_share_15 rfl ?_
  refine g_if_ge (tgt := 23) dX3_share_16 (by decide) (fun c16 => ?_) (fun c16 => ?_)
  · refine g_iload_n dX3_share_23 rfl ?_
    refine g_ireturn dX3_share_24 (Or.inl rfl) ⟨_, rfl, ?_⟩
    refine ⟨?_, rfl⟩
    unfold shrS
    first
      | (rw [if_pos (by omega)]; done)
      | (rw [if_neg (by omega)]; done)
  · refine g_iconst dX3_share_19 ⟨by decide, by decide⟩ ?_
    refine g_goto (tgt := 24) dX3_share_20 (by decide) ?_
    refine g_ireturn dX3_share_24 (Or.inl rfl) ⟨_, rfl, ?_⟩
    refine ⟨?_, rfl⟩
    unfold shrS
    first
      | (rw [if_pos (by omega)]; done)
      | (rw [if_neg (by omega)]; done)

theorem sumS_r6 {f : Nat → Int} : ∀ n : Nat, (∀ q, q < n → f q ≤ 20) → 0 ≤ sumS f n ∧ sumS f n ≤ 20 * (n : Int)
  | 0, _ => ⟨Int.le_refl _, Int.le_refl _⟩
  | n + 1, h => by
    have := sumS_r6 n (fun q hq => h q (by omega))
    have := h n (by omega)
    unfold sumS
    split <;> omega
theorem bestS_r3 {f sh : Nat → Int} : ∀ n : Nat, (∀ q, q < n → f q ≤ 20 ∧ 0 ≤ sh q ∧ sh q ≤ 100) → 0 ≤ bestS f sh n ∧ bestS f sh n ≤ 2000
  | 0, _ => ⟨Int.le_refl _, by unfold bestS; omega⟩
  | n + 1, h => by
    have := bestS_r3 (f := f) (sh := sh) n (fun q hq => h q (by omega))
    have h3 := h n (by omega)
    unfold bestS
    split
    · rename_i h4
      have := mul_bd ⟨h4, h3.1⟩ h3.2
      split <;> omega
    · omega
theorem cc3_shownWorth {D : Nat} (hD : 4 ≤ D) (σ : am_HS) {b k : Nat} (hf : σ.2.2 = cH b) (hs : k < 60) (hb : rgC σ) {w : Nat} (hw : w < 10) : am_Do lc D mX3_shownWorth σ [vR (some (47 + 4 * k)), vR (some (37 + w))] (qL fun z s => z = encV (if shC σ k = 0 then vN 0 1 else nrm ((sumS (fun q => hI σ (47 + 4 * k + 3) q) 6) * (shrS (hI σ (37 + w) 3) (dayS (hI σ (47 + 4 * k + 1) 0) (hI σ (37 + w) 2) (hI σ (47 + 4 * k) 0)))) (shC σ k * 100)) ∧ s = σ) := by
  have hr := hb.1 k hs
  have hrw := hb.2 w hw
  have hc : 0 ≤ shC σ k ∧ shC σ k ≤ 6 := cntS_r (fun q => hI σ (47 + 4 * k + 3) q) 6
  obtain ⟨d, rfl⟩ : ∃ d, D = d + 1 := ⟨D - 1, by omega⟩
  refine am_enter rfl rfl (Nat.le_of_ble_eq_true rfl) ?_
  have loop : shC σ k ≠ 0 → ∀ (m q : Nat), q + m = 6 → am_Go lc d 3 5 3 cX3_shownWorth 16 [some (vR (some (47 + 4 * k))), some (vR (some (37 + w))), some (vI (shC σ k)), some (vI (sumS (fun q => hI σ (47 + 4 * k + 3) q) q)), some (vI (q : Int))] [] σ (qL fun z s => z = encV (if shC σ k = 0 then vN 0 1 else nrm ((sumS (fun q => hI σ (47 + 4 * k + 3) q) 6) * (shrS (hI σ (37 + w) 3) (dayS (hI σ (47 + 4 * k + 1) 0) (hI σ (37 + w) 2) (hI σ (47 + 4 * k) 0)))) (shC σ k * 100)) ∧ s = σ) := by
    intro hne m
    induction m with
    | zero =>
      intro q hq
      have hq6 : q = 6 := by omega
      subst hq6
      have b1 := sumS_r6 (f := fun q => hI σ (47 + 4 * k + 3) q) 6 (fun q hq => (hr.2.2.2.2.2 q hq).2)
      have etk : tkC σ k 0 = hI σ (47 + 4 * k + 1) 0 := if_pos ⟨by decide, by decide⟩
      have b2 := shrS_r hrw.2.2.2.1 (dayS_r (hr.2.2.2.2.1 0 (by decide)).1 hrw.2.2.1.1 hr.1.1)
      have b3 := mul_bd (a := 120) ⟨b1.1, by omega⟩ b2
      refine g_iload dX3_shownWorth_16 rfl ?_
      refine g_aload_n dX3_shownWorth_18 rfl ?_
      refine g_getA dX3_shownWorth_19 tf_3_22 (lc_s hs) rfl (crs6 hf hs) ?_
      refine g_alen dX3_shownWorth_22 (lc_s6 hs) (by decide) ?_
      refine g_icmp_ge (tgt := 52) dX3_shownWorth_23 (by decide) (fun c23 => ?_) (fun c23 => ?_)
      · refine g_iload_n dX3_shownWorth_52 rfl ?_
        refine g_i2l dX3_shownWorth_53 ?_
        refine g_aload_n dX3_shownWorth_54 rfl ?_
        refine g_aload_n dX3_shownWorth_55 rfl ?_
        refine g_iconst dX3_shownWorth_56 ⟨by decide, by decide⟩ ?_
        refine g_callvI dX3_shownWorth_57 tm_3_83 rfl ⟨rfl, rfl⟩ (lc_s hs) (Nat.le_of_ble_eq_true rfl) (cc3_share (by omega) σ hf hs hb hw 0) (fun z57 s57 h57 => ?_)
        obtain ⟨rfl, e57⟩ := h57
        obtain rfl := e57.symm
        rw [etk]
        refine g_i2l dX3_shownWorth_60 ?_
        refine g_lmul dX3_shownWorth_61 rfl ⟨by omega, by omega⟩ ?_
        refine g_iload_n dX3_shownWorth_62 rfl ?_
        refine g_i2l dX3_shownWorth_63 ?_
        refine g_ldc2 dX3_shownWorth_64 tj_3_92 ⟨by decide, by decide⟩ ?_
        refine g_lmul dX3_shownWorth_67 rfl ⟨by omega, by omega⟩ ?_
        refine g_callsL dX3_shownWorth_68 tm_3_94 rfl ⟨Nat.le_of_ble_eq_true rfl, rfl, rfl⟩ (Nat.le_of_ble_eq_true rfl) (cc4_of (by omega) σ _ _ ⟨by omega, by omega⟩ ⟨by omega, by omega⟩) (fun z68 s68 h68 => ?_)
        obtain ⟨rfl, e68⟩ := h68
        obtain rfl := e68.symm
        refine g_lreturn dX3_shownWorth_71 rfl ⟨_, rfl, ?_⟩
        refine ⟨?_, rfl⟩
        rw [if_neg hne]
      · exfalso; omega
    | succ m ih =>
      intro q hq
      have ih := ih (q + 1) (by omega)
      have b1 := sumS_r6 (f := fun q => hI σ (47 + 4 * k + 3) q) q (fun q hq => (hr.2.2.2.2.2 q (by omega)).2)
      have b2 := hr.2.2.2.2.2 q (by omega)
      unfold sumS at ih
      refine g_iload dX3_shownWorth_16 rfl ?_
      refine g_aload_n dX3_shownWorth_18 rfl ?_
      refine g_getA dX3_shownWorth_19 tf_3_22 (lc_s hs) rfl (crs6 hf hs) ?_
      refine g_alen dX3_shownWorth_22 (lc_s6 hs) (by decide) ?_
      refine g_icmp_ge (tgt := 52) dX3_shownWorth_23 (by decide) (fun c23 => ?_) (fun c23 => ?_)
      · exfalso; omega
      · refine g_aload_n dX3_shownWorth_26 rfl ?_
        refine g_getA dX3_shownWorth_27 tf_3_22 (lc_s hs) rfl (crs6 hf hs) ?_
        refine g_iload dX3_shownWorth_30 rfl ?_
        refine g_ialdN (q) dX3_shownWorth_32 (lc_s6 hs) (by omega) (by omega) ?_
        refine g_if_lt (tgt := 46) dX3_shownWorth_33 (by decide) (fun c33 => ?_) (fun c33 => ?_)
        · refine g_iinc dX3_shownWorth_46 (by decide) rfl ⟨by omega, by omega⟩ (show (q : Int) + 1 = ((q + 1 : Nat) : Int) from by omega) rfl ?_
          refine g_goto (tgt := 16) dX3_shownWorth_49 (by decide) ?_
          by_cases hp : 0 < hI σ (47 + 4 * k + 3) q
          · rw [if_pos hp] at ih
            first
              | exact ih
              | (exfalso; omega)
          · rw [if_neg hp, Int.add_zero] at ih
            first
              | exact ih
              | (have e0 : hI σ (47 + 4 * k + 3) q = 0 := by omega
                 rw [e0, Int.add_zero]; exact ih)
        · refine g_iload_n dX3_shownWorth_36 rfl ?_
          refine g_aload_n dX3_shownWorth_37 rfl ?_
          refine g_getA dX3_shownWorth_38 tf_3_22 (lc_s hs) rfl (crs6 hf hs) ?_
          refine g_iload dX3_shownWorth_41 rfl ?_
          refine g_ialdN (q) dX3_shownWorth_43 (lc_s6 hs) (by omega) (by omega) ?_
          refine g_iadd dX3_shownWorth_44 rfl ⟨by omega, by omega⟩ ?_
          refine g_istore_n dX3_shownWorth_45 (by decide) rfl ?_
          refine g_iinc dX3_shownWorth_46 (by decide) rfl ⟨by omega, by omega⟩ (show (q : Int) + 1 = ((q + 1 : Nat) : Int) from by omega) rfl ?_
          refine g_goto (tgt := 16) dX3_shownWorth_49 (by decide) ?_
          by_cases hp : 0 < hI σ (47 + 4 * k + 3) q
          · rw [if_pos hp] at ih
            first
              | exact ih
              | (exfalso; omega)
          · rw [if_neg hp, Int.add_zero] at ih
            first
              | exact ih
              | (have e0 : hI σ (47 + 4 * k + 3) q = 0 := by omega
                 rw [e0, Int.add_zero]; exact ih)
  refine g_aload_n dX3_shownWorth_0 rfl ?_
  refine g_callvI dX3_shownWorth_1 tm_3_49 rfl ⟨rfl, rfl⟩ (lc_s hs) (Nat.le_of_ble_eq_true rfl) (cc3_shownMarks (by omega) _ hf hs) (fun z1 s1 h1 => ?_)
  obtain ⟨rfl, e1⟩ := h1
  obtain rfl := e1.symm
  refine g_istore_n dX3_shownWorth_4 (by decide) rfl ?_
  refine g_iload_n dX3_shownWorth_5 rfl ?_
  refine g_if_ne (tgt := 11) dX3_shownWorth_6 (by decide) (fun c6 => ?_) (fun c6 => ?_)
  · refine g_iconst dX3_shownWorth_11 ⟨by decide, by decide⟩ ?_
    refine g_istore_n dX3_shownWorth_12 (by decide) rfl ?_
    refine g_iconst dX3_shownWorth_13 ⟨by decide, by decide⟩ ?_
    refine g_istore dX3_shownWorth_14 (by decide) rfl ?_
    exact loop (by omega) 6 0 rfl
  · refine g_lconst1 dX3_shownWorth_9 ?_
    refine g_lreturn dX3_shownWorth_10 rfl ⟨_, rfl, ?_⟩
    refine ⟨?_, rfl⟩
    rw [if_pos (by omega)]
    rfl
theorem cc3_worth {D : Nat} (hD : 5 ≤ D) (σ : am_HS) {b k : Nat} (hf : σ.2.2 = cH b) (hs : k < 60) (hb : rgC σ) {w : Nat} (hw : w < 10) : am_Do lc D mX3_worth σ [vR (some (47 + 4 * k)), vR (some (37 + w))] (qL fun z s => z = encV (wvC σ k w) ∧ s = σ) := by
  have hr := hb.1 k hs
  have hrw := hb.2 w hw
  have hfs : ∀ t, t < 3 → hI σ (47 + 4 * k + 2) t ≤ 20 ∧ 0 ≤ (fun t => shrS (hI σ (37 + w) 3) (dayS (hI σ (47 + 4 * k + 1) t) (hI σ (37 + w) 2) (hI σ (47 + 4 * k) 0))) t ∧ (fun t => shrS (hI σ (37 + w) 3) (dayS (hI σ (47 + 4 * k + 1) t) (hI σ (37 + w) 2) (hI σ (47 + 4 * k) 0))) t ≤ 100 := fun t ht => ⟨(hr.2.2.2.2.1 t ht).2.2, shrS_r hrw.2.2.2.1 (dayS_r (hr.2.2.2.2.1 t ht).1 hrw.2.2.1.1 hr.1.1)⟩
  obtain ⟨d, rfl⟩ : ∃ d, D = d + 1 := ⟨D - 1, by omega⟩
  refine am_enter rfl rfl (Nat.le_of_ble_eq_true rfl) ?_
  have loop : hI σ (47 + 4 * k) 1 = 0 → hI σ (37 + w) 0 ≠ 3 → ∀ (m q : Nat), q + m = 3 → am_Go lc d 3 4 3 cX3_worth 27 [some (vR (some (47 + 4 * k))), some (vR (some (37 + w))), some (vI (bestS (fun t => hI σ (47 + 4 * k + 2) t) (fun t => shrS (hI σ (37 + w) 3) (dayS (hI σ (47 + 4 * k + 1) t) (hI σ (37 + w) 2) (hI σ (47 + 4 * k) 0))) q)), some (vI (q : Int))] [] σ (qL fun z s => z = encV (wvC σ k w) ∧ s = σ) := by
    intro h1 h3 m
    induction m with
    | zero =>
      intro q hq
      have hq6 : q = 3 := by omega
      subst hq6
      have b1 := bestS_r3 (f := (fun t => hI σ (47 + 4 * k + 2) t)) (sh := (fun t => shrS (hI σ (37 + w) 3) (dayS (hI σ (47 + 4 * k + 1) t) (hI σ (37 + w) 2) (hI σ (47 + 4 * k) 0)))) 3 hfs
      refine g_iload_n dX3_worth_27 rfl ?_
      refine g_aload_n dX3_worth_28 rfl ?_
      refine g_getA dX3_worth_29 tf_3_19 (lc_s hs) rfl (crs5 hf hs) ?_
      refine g_alen dX3_worth_32 (lc_s5 hs) (by decide) ?_
      refine g_icmp_ge (tgt := 69) dX3_worth_33 (by decide) (fun c33 => ?_) (fun c33 => ?_)
      · refine g_iload_n dX3_worth_69 rfl ?_
        refine g_i2l dX3_worth_70 ?_
        refine g_ldc2 dX3_worth_71 tj_3_92 ⟨by decide, by decide⟩ ?_
        refine g_callsL dX3_worth_74 tm_3_94 rfl ⟨Nat.le_of_ble_eq_true rfl, rfl, rfl⟩ (Nat.le_of_ble_eq_true rfl) (cc4_of (by omega) σ _ _ ⟨by omega, by omega⟩ ⟨by omega, by omega⟩) (fun z74 s74 h74 => ?_)
        obtain ⟨rfl, e74⟩ := h74
        obtain rfl := e74.symm
        refine g_lreturn dX3_worth_77 rfl ⟨_, rfl, ?_⟩
        refine ⟨?_, rfl⟩
        unfold wvC
        rw [if_neg (by omega), if_neg h3]
      · exfalso; omega
    | succ m ih =>
      intro q hq
      have ih := ih (q + 1) (by omega)
      have b0 := hfs q (by omega)
      dsimp only at b0
      have etk : tkC σ k (q : Int) = hI σ (47 + 4 * k + 1) q := by
        unfold tkC
        rw [if_pos ⟨by omega, by omega⟩, Int.toNat_natCast]
      unfold bestS at ih
      refine g_iload_n dX3_worth_27 rfl ?_
      refine g_aload_n dX3_worth_28 rfl ?_
      refine g_getA dX3_worth_29 tf_3_19 (lc_s hs) rfl (crs5 hf hs) ?_
      refine g_alen dX3_worth_32 (lc_s5 hs) (by decide) ?_
      refine g_icmp_ge (tgt := 69) dX3_worth_33 (by decide) (fun c33 => ?_) (fun c33 => ?_)
      · exfalso; omega
      · refine g_aload_n dX3_worth_36 rfl ?_
        refine g_getA dX3_worth_37 tf_3_19 (lc_s hs) rfl (crs5 hf hs) ?_
        refine g_iload_n dX3_worth_40 rfl ?_
        refine g_ialdN (q) dX3_worth_41 (lc_s5 hs) (by omega) (by omega) ?_
        refine g_if_lt (tgt := 63) dX3_worth_42 (by decide) (fun c42 => ?_) (fun c42 => ?_)
        · rw [if_neg (by omega)] at ih
          refine g_iinc dX3_worth_63 (by decide) rfl ⟨by omega, by omega⟩ (show (q : Int) + 1 = ((q + 1 : Nat) : Int) from by omega) rfl ?_
          refine g_goto (tgt := 27) dX3_worth_66 (by decide) ?_
          first
            | exact ih
            | (have em : ∀ x y : Int, (if x < y then y else x) = (if y < x then x else y) := fun x y => by split <;> split <;> omega
               rw [em]
               exact ih)
        · rw [if_pos (by omega)] at ih
          have b3 := mul_bd ⟨(show (0 : Int) ≤ hI σ (47 + 4 * k + 2) q by omega), b0.1⟩ b0.2
          refine g_iload_n dX3_worth_45 rfl ?_
          refine g_aload_n dX3_worth_46 rfl ?_
          refine g_getA dX3_worth_47 tf_3_19 (lc_s hs) rfl (crs5 hf hs) ?_
          refine g_iload_n dX3_worth_50 rfl ?_
          refine g_ialdN (q) dX3_worth_51 (lc_s5 hs) (by omega) (by omega) ?_
          refine g_aload_n dX3_worth_52 rfl ?_
          refine g_aload_n dX3_worth_53 rfl ?_
          refine g_iload_n dX3_worth_54 rfl ?_
          refine g_callvI dX3_worth_55 tm_3_83 rfl ⟨rfl, rfl⟩ (lc_s hs) (Nat.le_of_ble_eq_true rfl) (cc3_share (by omega) σ hf hs hb hw (q : Int)) (fun z55 s55 h55 => ?_)
          obtain ⟨rfl, e55⟩ := h55
          obtain rfl := e55.symm
          rw [etk]
          refine g_imul dX3_worth_58 rfl ⟨by omega, by omega⟩ ?_
          refine g_max dX3_worth_59 tb_3_86 (Nat.le_of_ble_eq_true rfl) ?_
          refine g_istore_n dX3_worth_62 (by decide) rfl ?_
          refine g_iinc dX3_worth_63 (by decide) rfl ⟨by omega, by omega⟩ (show (q : Int) + 1 = ((q + 1 : Nat) : Int) from by omega) rfl ?_
          refine g_goto (tgt := 27) dX3_worth_66 (by decide) ?_
          first
            | exact ih
            | (have em : ∀ x y : Int, (if x < y then y else x) = (if y < x then x else y) := fun x y => by split <;> split <;> omega
               rw [em]
               exact ih)
  refine g_aload_n dX3_worth_0 rfl ?_
  refine g_getZ dX3_worth_1 tf_3_70 (lc_s hs) rfl ?_
  refine g_if_eq (tgt := 9) dX3_worth_4 (by decide) (fun c4 => ?_) (fun c4 => ?_)
  · refine g_aload_n dX3_worth_9 rfl ?_
    refine g_getI dX3_worth_10 tf_3_76 (lc_w hw) rfl ?_
    refine g_iconst dX3_worth_13 ⟨by decide, by decide⟩ ?_
    refine g_icmp_ne (tgt := 23) dX3_worth_14 (by decide) (fun c14 => ?_) (fun c14 => ?_)
    · refine g_iconst dX3_worth_23 ⟨by decide, by decide⟩ ?_
      refine g_istore_n dX3_worth_24 (by decide) rfl ?_
      refine g_iconst dX3_worth_25 ⟨by decide, by decide⟩ ?_
      refine g_istore_n dX3_worth_26 (by decide) rfl ?_
      exact loop (by omega) (by omega) 3 0 rfl
    · refine g_aload_n dX3_worth_17 rfl ?_
      refine g_aload_n dX3_worth_18 rfl ?_
      refine g_callvL dX3_worth_19 tm_3_79 rfl ⟨rfl, rfl⟩ (lc_s hs) (Nat.le_of_ble_eq_true rfl) (cc3_shownWorth (by omega) σ hf hs hb hw) (fun z19 s19 h19 => ?_)
      obtain ⟨rfl, e19⟩ := h19
      obtain rfl := e19.symm
      refine g_lreturn dX3_worth_22 rfl ⟨_, rfl, ?_⟩
      refine ⟨?_, rfl⟩
      unfold wvC
      rw [if_neg (show ¬ hI σ (47 + 4 * k) 1 ≠ 0 by omega), if_pos (show hI σ (37 + w) 0 = 3 by omega)]
  · refine g_lconst0 dX3_worth_7 ?_
    refine g_lreturn dX3_worth_8 rfl ⟨_, rfl, ?_⟩
    refine ⟨?_, rfl⟩
    unfold wvC
    rw [if_pos (by omega)]
    rfl
