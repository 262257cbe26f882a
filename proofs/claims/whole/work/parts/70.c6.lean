/-! THE CLASS: peers, appeals, marks, text -/
abbrev mnC (σ : am_HS) (w : Nat) : Nat → Int := fun q => hI σ (47 + 4 * (10 * q + w)) 2
def peC (mn : Nat → Int) (P p : Nat) (i : Int) : Int := if peS mn P p i = -9 then -1 else peS mn P p i
theorem cc6_peerOf {D : Nat} (hD : 3 ≤ D) (σ : am_HS) {b : Nat} (hf : σ.2.2 = cH b) (hg : GC σ) (hb : rgC σ) (P : Nat) (hP : hI σ 0 7 = (P : Int)) (p w : Nat) (hp : p < P) (hw : (w : Int) < hI σ 0 8) (i : Int) : am_Do lc D mX6_peerOf σ [vR (some 0), vI (p : Int), vI (w : Int), vI i] (qI fun z s => z = peC (mnC σ w) P p i ∧ s = σ) := by
  obtain ⟨hg1, hg2, hrf⟩ := id hg
  have hP6 : P ≤ 6 := by omega
  have hw10 : w < 10 := by omega
  obtain ⟨d, rfl⟩ : ∃ d, D = d + 1 := ⟨D - 1, by omega⟩
  refine am_enter rfl rfl (Nat.le_of_ble_eq_true rfl) ?_
  have loop : 0 ≤ i ∧ i < 2 → ∀ (m k f j : Nat) (o6 o7 : Option am_V), k + m = P → 1 ≤ k → peF (mnC σ w) P p m j = peS (mnC σ w) P p i → (f : Int) + (j : Int) = i → am_Go lc d 6 8 1 cX6_peerOf 17 [some (vR (some 0)), some (vI (p : Int)), some (vI (w : Int)), some (vI i), some (vI (f : Int)), some (vI (k : Int)), o6, o7] [] σ (qI fun z s => z = peC (mnC σ w) P p i ∧ s = σ) := by
    intro hi m
    induction m with
    | zero =>
      intro k f j o6 o7 hk hk1 he hj
      have e9 : peS (mnC σ w) P p i = -9 := he.symm
      refine g_iload dX6_peerOf_17 rfl ?_
      refine g_aload_n dX6_peerOf_19 rfl ?_
      refine g_getI dX6_peerOf_20 tf_6_51 rfl rfl ?_
      refine g_icmp_ge (tgt := 95) dX6_peerOf_23 (by decide) (fun c23 => ?_) (fun c23 => ?_)
      · refine g_iconst dX6_peerOf_95 ⟨by decide, by decide⟩ ?_
        refine g_ireturn dX6_peerOf_96 (Or.inl rfl) ⟨_, rfl, ?_⟩
        exact ⟨(if_pos e9).symm, rfl⟩
      · exfalso; omega
    | succ m ih =>
      intro k f j o6 o7 hk hk1 he hj
      have hm := Nat.mod_lt (p + k) (show 0 < P by omega)
      have ek : P - (m + 1) = k := by omega
      have emod : (p + k) % P = if p + k < P then p + k else p + k - P := by
        split
        · rename_i h; exact Nat.mod_eq_of_lt h
        · rw [Nat.mod_eq_sub_mod (by omega), Nat.mod_eq_of_lt (by omega)]
      unfold peF at he
      rw [ek] at he
      have tail : ∀ o6 o7, am_Go lc d 6 8 1 cX6_peerOf 53 [some (vR (some 0)), some (vI (p : Int)), some (vI (w : Int)), some (vI i), some (vI (f : Int)), some (vI (k : Int)), o6, o7] [vI (((p + k) % P : Nat) : Int)] σ (qI fun z s => z = peC (mnC σ w) P p i ∧ s = σ) := by
        intro o6 o7
        generalize hqq : (p + k) % P = q at *
        have hrk := hb.1 (10 * q + w) (by omega)
        have hs : 10 * q + w < 60 := by omega
        have ekk : (10 * (q : Int) + (w : Int)).toNat = 10 * q + w := by omega
        refine g_istore dX6_peerOf_53 (by decide) rfl ?_
        refine g_aload_n dX6_peerOf_55 rfl ?_
        refine g_iload dX6_peerOf_56 rfl ?_
        refine g_iload_n dX6_peerOf_58 rfl ?_
        refine g_callvR dX6_peerOf_59 tm_6_83 rfl ⟨rfl, rfl⟩ rfl (Nat.le_of_ble_eq_true rfl) (cc6_sheetOf (by omega) σ hf hg _ _) (fun z59 s59 h59 => ?_)
        obtain ⟨h59, e59⟩ := h59
        obtain rfl := e59.symm
        obtain ⟨-, rfl⟩ : (0 ≤ (q : Int) ∧ (q : Int) < hI σ 0 7 ∧ 0 ≤ (w : Int) ∧ (w : Int) < hI σ 0 8) ∧ z59 = some (47 + 4 * (10 * (q : Int) + (w : Int)).toNat) := by
          rcases h59 with a | a
          · exact a
          · exact absurd (show 0 ≤ (q : Int) ∧ (q : Int) < hI σ 0 7 ∧ 0 ≤ (w : Int) ∧ (w : Int) < hI σ 0 8 by omega) a.1
        rw [ekk]
        refine g_astore dX6_peerOf_62 (by decide) rfl ?_
        refine g_aload dX6_peerOf_64 rfl ?_
        refine g_ifnull (tgt := 89) dX6_peerOf_66 (by decide) (fun c66 => ?_) (fun c66 => ?_)
        · exact absurd c66 (by simp)
        · refine g_aload dX6_peerOf_69 rfl ?_
          refine g_getI dX6_peerOf_71 tf_6_186 (lc_s hs) rfl ?_
          refine g_if_le (tgt := 89) dX6_peerOf_74 (by decide) (fun c74 => ?_) (fun c74 => ?_)
          · rw [if_pos (show mnC σ w q = 0 from (by omega : hI σ (47 + 4 * (10 * q + w)) 2 = 0))] at he
            refine g_iinc dX6_peerOf_89 (by decide) rfl ⟨by omega, by omega⟩ (show (k : Int) + 1 = ((k + 1 : Nat) : Int) from by omega) rfl ?_
            refine g_goto (tgt := 17) dX6_peerOf_92 (by decide) ?_
            first
              | exact ih (k + 1) f j _ _ (by omega) (by omega) he hj
              | exact ih (k + 1) (f + 1) (j - 1) _ _ (by omega) (by omega) he (by omega)
          · rw [if_neg (show ¬ mnC σ w q = 0 from (by omega : ¬ hI σ (47 + 4 * (10 * q + w)) 2 = 0))] at he
            refine g_iload dX6_peerOf_77 rfl ?_
            refine g_iload_n dX6_peerOf_79 rfl ?_
            refine g_icmp_ne (tgt := 86) dX6_peerOf_80 (by decide) (fun c80 => ?_) (fun c80 => ?_)
            · rw [if_neg (by omega)] at he
              refine g_iinc dX6_peerOf_86 (by decide) rfl ⟨by omega, by omega⟩ (show (f : Int) + 1 = ((f + 1 : Nat) : Int) from by omega) rfl ?_
              refine g_iinc dX6_peerOf_89 (by decide) rfl ⟨by omega, by omega⟩ (show (k : Int) + 1 = ((k + 1 : Nat) : Int) from by omega) rfl ?_
              refine g_goto (tgt := 17) dX6_peerOf_92 (by decide) ?_
              first
                | exact ih (k + 1) f j _ _ (by omega) (by omega) he hj
                | exact ih (k + 1) (f + 1) (j - 1) _ _ (by omega) (by omega) he (by omega)
            · rw [if_pos (by omega)] at he
              refine g_iload dX6_peerOf_83 rfl ?_
              refine g_ireturn dX6_peerOf_85 (Or.inl rfl) ⟨_, rfl, ?_⟩
              exact ⟨by unfold peC; rw [← he, if_neg (by omega)], rfl⟩
      refine g_iload dX6_peerOf_17 rfl ?_
      refine g_aload_n dX6_peerOf_19 rfl ?_
      refine g_getI dX6_peerOf_20 tf_6_51 rfl rfl ?_
      refine g_icmp_ge (tgt := 95) dX6_peerOf_23 (by decide) (fun c23 => ?_) (fun c23 => ?_)
      · exfalso; omega
      · refine g_iload_n dX6_peerOf_26 rfl ?_
        refine g_iload dX6_peerOf_27 rfl ?_
        refine g_iadd dX6_peerOf_29 rfl ⟨by omega, by omega⟩ ?_
        refine g_aload_n dX6_peerOf_30 rfl ?_
        refine g_getI dX6_peerOf_31 tf_6_51 rfl rfl ?_
        refine g_icmp_ge (tgt := 44) dX6_peerOf_34 (by decide) (fun c34 => ?_) (fun c34 => ?_)
        · refine g_iload_n dX6_peerOf_44 rfl ?_
          refine g_iload dX6_peerOf_45 rfl ?_
          refine g_iadd dX6_peerOf_47 rfl ⟨by omega, by omega⟩ ?_
          refine g_aload_n dX6_peerOf_48 rfl ?_
          refine g_getI dX6_peerOf_49 tf_6_51 rfl rfl ?_
          refine g_isub dX6_peerOf_52 rfl ⟨by omega, by omega⟩ ?_
          first
            | (have h := tail o6 o7
               rw [emod, if_pos (by omega)] at h
               exact h)
            | (have h := tail o6 o7
               rw [emod, if_neg (by omega)] at h
               rw [show (p : Int) + (k : Int) - hI σ 0 7 = ((p + k - P : Nat) : Int) by omega]
               exact h)
        · refine g_iload_n dX6_peerOf_37 rfl ?_
          refine g_iload dX6_peerOf_38 rfl ?_
          refine g_iadd dX6_peerOf_40 rfl ⟨by omega, by omega⟩ ?_
          refine g_goto (tgt := 53) dX6_peerOf_41 (by decide) ?_
          first
            | (have h := tail o6 o7
               rw [emod, if_pos (by omega)] at h
               exact h)
            | (have h := tail o6 o7
               rw [emod, if_neg (by omega)] at h
               rw [show (p : Int) + (k : Int) - hI σ 0 7 = ((p + k - P : Nat) : Int) by omega]
               exact h)
  by_cases hi : 0 ≤ i ∧ i < 2
  · obtain ⟨j, rfl⟩ : ∃ j : Nat, i = (j : Int) := ⟨i.toNat, by omega⟩
    refine g_iload_n dX6_peerOf_0 rfl ?_
    refine g_if_lt (tgt := 9) dX6_peerOf_1 (by decide) (fun c1 => ?_) (fun c1 => ?_)
    · exfalso; omega
    · refine g_iload_n dX6_peerOf_4 rfl ?_
      refine g_iconst dX6_peerOf_5 ⟨by decide, by decide⟩ ?_
      refine g_icmp_lt (tgt := 11) dX6_peerOf_6 (by decide) (fun c6 => ?_) (fun c6 => ?_)
      · refine g_iconst dX6_peerOf_11 ⟨by decide, by decide⟩ ?_
        refine g_istore dX6_peerOf_12 (by decide) rfl ?_
        refine g_iconst dX6_peerOf_14 ⟨by decide, by decide⟩ ?_
        refine g_istore dX6_peerOf_15 (by decide) rfl ?_
        exact loop hi (P - 1) 1 0 j none none (by omega) (by omega) (by unfold peS; rw [if_pos hi, Int.toNat_natCast]) (by omega)
      · exfalso; omega
  · have e9 : peS (mnC σ w) P p i = -9 := if_neg hi
    refine g_iload_n dX6_peerOf_0 rfl ?_
    refine g_if_lt (tgt := 9) dX6_peerOf_1 (by decide) (fun c1 => ?_) (fun c1 => ?_)
    · refine g_iconst dX6_peerOf_9 ⟨by decide, by decide⟩ ?_
      refine g_ireturn dX6_peerOf_10 (Or.inl rfl) ⟨_, rfl, ?_⟩
      exact ⟨(if_pos e9).symm, rfl⟩
    · refine g_iload_n dX6_peerOf_4 rfl ?_
      refine g_iconst dX6_peerOf_5 ⟨by decide, by decide⟩ ?_
      refine g_icmp_lt (tgt := 11) dX6_peerOf_6 (by decide) (fun c6 => ?_) (fun c6 => ?_)
      · exfalso; omega
      · refine g_iconst dX6_peerOf_9 ⟨by decide, by decide⟩ ?_
        refine g_ireturn dX6_peerOf_10 (Or.inl rfl) ⟨_, rfl, ?_⟩
        exact ⟨(if_pos e9).symm, rfl⟩
theorem peC_by {mn : Nat → Int} {P p : Nat} {i : Int} {a : Int} (h : 0 ≤ a) : peC mn P p i = a ↔ peS mn P p i = a := by
  unfold peC
  split
  · rename_i h9
    rw [h9]
    omega
  · exact Iff.rfl
theorem cc6_isPeer {D : Nat} (hD : 4 ≤ D) (σ : am_HS) {b : Nat} (hf : σ.2.2 = cH b) (hg : GC σ) (hb : rgC σ) (P : Nat) (hP : hI σ 0 7 = (P : Int)) (q p w : Nat) (hp : p < P) (hw : (w : Int) < hI σ 0 8) : am_Do lc D mX6_isPeer σ [vR (some 0), vI (q : Int), vI (p : Int), vI (w : Int)] (qI fun z s => (z = 1 ∧ (peS (mnC σ w) P p 0 = (q : Int) ∨ peS (mnC σ w) P p 1 = (q : Int)) ∨ z = 0 ∧ ¬ (peS (mnC σ w) P p 0 = (q : Int) ∨ peS (mnC σ w) P p 1 = (q : Int))) ∧ s = σ) := by
  have q0 := peC_by (mn := mnC σ w) (P := P) (p := p) (i := 0) (a := (q : Int)) (by omega)
  have q1 := peC_by (mn := mnC σ w) (P := P) (p := p) (i := 1) (a := (q : Int)) (by omega)
  obtain ⟨d, rfl⟩ : ∃ d, D = d + 1 := ⟨D - 1, by omega⟩
  refine am_enter rfl rfl (Nat.le_of_ble_eq_true rfl) ?_
  refine g_aload_n dX6_isPeer_0 rfl ?_
  refine g_iload_n dX6_isPeer_1 rfl ?_
  refine g_iload_n dX6_isPeer_2 rfl ?_
  refine g_iconst dX6_isPeer_3 ⟨by decide, by decide⟩ ?_
  refine g_callvI dX6_isPeer_4 tm_6_189 rfl ⟨rfl, rfl⟩ rfl (Nat.le_of_ble_eq_true rfl) (cc6_peerOf (by omega) σ hf hg hb P hP p w hp hw 0) (fun z4 s4 h4 => ?_)
  obtain ⟨rfl, e4⟩ := h4
  obtain rfl := e4.symm
  refine g_iload_n dX6_isPeer_7 rfl ?_
  refine g_icmp_eq (tgt := 22) dX6_isPeer_8 (by decide) (fun c8 => ?_) (fun c8 => ?_)
  · refine g_iconst dX6_isPeer_22 ⟨by decide, by decide⟩ ?_
    refine g_goto (tgt := 27) dX6_isPeer_23 (by decide) ?_
    refine g_ireturn dX6_isPeer_27 (Or.inr ⟨rfl, by omega⟩) ⟨_, rfl, ?_⟩
    refine ⟨?_, rfl⟩
    first
      | exact Or.inl ⟨rfl, Or.inl (q0.mp (by omega))⟩
      | exact Or.inl ⟨rfl, Or.inr (q1.mp (by omega))⟩
      | exact Or.inr ⟨rfl, fun h => h.elim (fun g => by have := q0.mpr g; omega) (fun g => by have := q1.mpr g; omega)⟩
  · refine g_aload_n dX6_isPeer_11 rfl ?_
    refine g_iload_n dX6_isPeer_12 rfl ?_
    refine g_iload_n dX6_isPeer_13 rfl ?_
    refine g_iconst dX6_isPeer_14 ⟨by decide, by decide⟩ ?_
    refine g_callvI dX6_isPeer_15 tm_6_189 rfl ⟨rfl, rfl⟩ rfl (Nat.le_of_ble_eq_true rfl) (cc6_peerOf (by omega) σ hf hg hb P hP p w hp hw 1) (fun z15 s15 h15 => ?_)
    obtain ⟨rfl, e15⟩ := h15
    obtain rfl := e15.symm
    refine g_iload_n dX6_isPeer_18 rfl ?_
    refine g_icmp_ne (tgt := 26) dX6_isPeer_19 (by decide) (fun c19 => ?_) (fun c19 => ?_)
    · refine g_iconst dX6_isPeer_26 ⟨by decide, by decide⟩ ?_
      refine g_ireturn dX6_isPeer_27 (Or.inr ⟨rfl, by omega⟩) ⟨_, rfl, ?_⟩
      refine ⟨?_, rfl⟩
      first
        | exact Or.inl ⟨rfl, Or.inl (q0.mp (by omega))⟩
        | exact Or.inl ⟨rfl, Or.inr (q1.mp (by omega))⟩
        | exact Or.inr ⟨rfl, fun h => h.elim (fun g => by have := q0.mpr g; omega) (fun g => by have := q1.mpr g; omega)⟩
    · refine g_iconst dX6_isPeer_22 ⟨by decide, by decide⟩ ?_
      refine g_goto (tgt := 27) dX6_isPeer_23 (by decide) ?_
      refine g_ireturn dX6_isPeer_27 (Or.inr ⟨rfl, by omega⟩) ⟨_, rfl, ?_⟩
      refine ⟨?_, rfl⟩
      first
        | exact Or.inl ⟨rfl, Or.inl (q0.mp (by omega))⟩
        | exact Or.inl ⟨rfl, Or.inr (q1.mp (by omega))⟩
        | exact Or.inr ⟨rfl, fun h => h.elim (fun g => by have := q0.mpr g; omega) (fun g => by have := q1.mpr g; omega)⟩

theorem cc6_peer {D : Nat} (hD : 4 ≤ D) (σ : am_HS) {b : Nat} (hf : σ.2.2 = cH b) (hg : GC σ) (hb : rgC σ) (P : Nat) (hP : hI σ 0 7 = (P : Int)) (p w i : Int) : am_Do lc D mX6_peer σ [vR (some 0), vI p, vI w, vI i] (qI fun z s => (¬ (0 ≤ p ∧ p < hI σ 0 7 ∧ 0 ≤ w ∧ w < hI σ 0 8) ∧ z = -1 ∧ s = uI σ 8 1 (hI σ 8 1 + 1)) ∨ ((0 ≤ p ∧ p < hI σ 0 7 ∧ 0 ≤ w ∧ w < hI σ 0 8) ∧ (¬ (hI σ (37 + w.toNat) 0 = 3 ∧ 0 < hI σ (47 + 4 * (10 * p.toNat + w.toNat)) 2) ∧ z = -3 ∧ s = uI σ 8 3 (hI σ 8 3 + 1) ∨ (hI σ (37 + w.toNat) 0 = 3 ∧ 0 < hI σ (47 + 4 * (10 * p.toNat + w.toNat)) 2) ∧ z = peS (mnC σ w.toNat) P p.toNat i ∧ s = σ))) := by
  obtain ⟨hg1, hg2, hrf⟩ := id hg
  obtain ⟨d, rfl⟩ : ∃ d, D = d + 1 := ⟨D - 1, by omega⟩
  refine am_enter rfl rfl (Nat.le_of_ble_eq_true rfl) ?_
  refine g_aload_n dX6_peer_0 rfl ?_
  refine g_iload_n dX6_peer_1 rfl ?_
  refine g_callvR dX6_peer_2 tm_6_67 rfl ⟨rfl, rfl⟩ rfl (Nat.le_of_ble_eq_true rfl) (cc6_workAt (by omega) σ hf _ (by omega)) (fun z2 s2 h2 => ?_)
  obtain ⟨h2, e2⟩ := h2
  obtain rfl := e2.symm
  refine g_astore dX6_peer_5 (by decide) rfl ?_
  refine g_aload_n dX6_peer_7 rfl ?_
  refine g_iload_n dX6_peer_8 rfl ?_
  refine g_iload_n dX6_peer_9 rfl ?_
  refine g_callvR dX6_peer_10 tm_6_83 rfl ⟨rfl, rfl⟩ rfl (Nat.le_of_ble_eq_true rfl) (cc6_sheetOf (by omega) σ hf hg _ _) (fun z10 s10 h10 => ?_)
  obtain ⟨h10, e10⟩ := h10
  obtain rfl := e10.symm
  refine g_astore dX6_peer_13 (by decide) rfl ?_
  refine g_aload dX6_peer_15 rfl ?_
  refine g_ifnull (tgt := 25) dX6_peer_17 (by decide) (fun c17 => ?_) (fun c17 => ?_)
  · have hno : ¬ (0 ≤ p ∧ p < hI σ 0 7 ∧ 0 ≤ w ∧ w < hI σ 0 8) := by
      rcases h2 with a | a
      · exact absurd (a.2.symm.trans c17) (by simp)
      · intro q; exact a.1 (by omega)
    refine g_aload_n dX6_peer_25 rfl ?_
    refine g_iconst dX6_peer_26 ⟨by decide, by decide⟩ ?_
    refine g_callvI dX6_peer_27 tm_6_55 rfl ⟨rfl, rfl⟩ rfl (Nat.le_of_ble_eq_true rfl) (cc6_refuse (by omega) σ hf _ ⟨by omega, by omega⟩ hrf) (fun z27 s27 h27 => ?_)
    obtain ⟨rfl, rfl⟩ := h27
    refine g_ireturn dX6_peer_30 (Or.inl rfl) ⟨_, rfl, ?_⟩
    first
      | exact Or.inl ⟨hno, rfl, rfl⟩
      | exact Or.inr ⟨hin, Or.inl ⟨by omega, rfl, rfl⟩⟩
      | (refine Or.inr ⟨hin, Or.inr ⟨by omega, ?_, rfl⟩⟩
         have hpr : peS (mnC σ w) P p i = -9 ∨ 0 ≤ peS (mnC σ w) P p i := by
           unfold peS
           split
           · exact hper.imp id And.left
           · exact Or.inl rfl
         unfold peC at c66
         try unfold peC
         rcases hpr with e | e
         · rw [if_pos e] at c66
           first
             | exact e.symm
             | (exfalso; omega)
         · rw [if_neg (by omega)] at c66
           first
             | exact if_neg (by omega)
             | (exfalso; omega))
  · obtain ⟨hwi, rfl⟩ : (0 ≤ w ∧ w < hI σ 0 8) ∧ z2 = some (37 + w.toNat) := by
      rcases h2 with a | a
      · exact a
      · exact absurd a.2 c17
    clear h2
    refine g_aload dX6_peer_20 rfl ?_
    refine g_ifnonnull (tgt := 31) dX6_peer_22 (by decide) (fun c22 => ?_) (fun c22 => ?_)
    · have hno : ¬ (0 ≤ p ∧ p < hI σ 0 7 ∧ 0 ≤ w ∧ w < hI σ 0 8) := by
        rcases h10 with a | a
        · exact absurd (a.2.symm.trans c22) (by simp)
        · intro q; exact a.1 (by omega)
      refine g_aload_n dX6_peer_25 rfl ?_
      refine g_iconst dX6_peer_26 ⟨by decide, by decide⟩ ?_
      refine g_callvI dX6_peer_27 tm_6_55 rfl ⟨rfl, rfl⟩ rfl (Nat.le_of_ble_eq_true rfl) (cc6_refuse (by omega) σ hf _ ⟨by omega, by omega⟩ hrf) (fun z27 s27 h27 => ?_)
      obtain ⟨rfl, rfl⟩ := h27
      refine g_ireturn dX6_peer_30 (Or.inl rfl) ⟨_, rfl, ?_⟩
      first
        | exact Or.inl ⟨hno, rfl, rfl⟩
        | exact Or.inr ⟨hin, Or.inl ⟨by omega, rfl, rfl⟩⟩
        | (refine Or.inr ⟨hin, Or.inr ⟨by omega, ?_, rfl⟩⟩
           have hpr : peS (mnC σ w) P p i = -9 ∨ 0 ≤ peS (mnC σ w) P p i := by
             unfold peS
             split
             · exact hper.imp id And.left
             · exact Or.inl rfl
           unfold peC at c66
           try unfold peC
           rcases hpr with e | e
           · rw [if_pos e] at c66
             first
               | exact e.symm
               | (exfalso; omega)
           · rw [if_neg (by omega)] at c66
             first
               | exact if_neg (by omega)
               | (exfalso; omega))
    · obtain ⟨hin, rfl⟩ : (0 ≤ p ∧ p < hI σ 0 7 ∧ 0 ≤ w ∧ w < hI σ 0 8) ∧ z10 = some (47 + 4 * (10 * p + w).toNat) := by
        rcases h10 with a | a
        · exact a
        · exact absurd a.2 c22
      clear h10
      obtain ⟨p, rfl⟩ : ∃ q : Nat, p = (q : Int) := ⟨p.toNat, by omega⟩
      obtain ⟨w, rfl⟩ : ∃ q : Nat, w = (q : Int) := ⟨w.toNat, by omega⟩
      have hp : p < 6 := by omega
      have hw : w < 10 := by omega
      have hs : 10 * p + w < 60 := by omega
      have ek : (10 * (p : Int) + (w : Int)).toNat = 10 * p + w := by omega
      simp only [Int.toNat_natCast]
      rw [ek]
      have hrk := hb.1 (10 * p + w) hs
      refine g_aload dX6_peer_31 rfl ?_
      refine g_getI dX6_peer_33 tf_6_71 (lc_w hw) rfl ?_
      refine g_iconst dX6_peer_36 ⟨by decide, by decide⟩ ?_
      refine g_icmp_ne (tgt := 48) dX6_peer_37 (by decide) (fun c37 => ?_) (fun c37 => ?_)
      · refine g_aload_n dX6_peer_48 rfl ?_
        refine g_bipush dX6_peer_49 (by decide) ?_
        refine g_callvI dX6_peer_51 tm_6_55 rfl ⟨rfl, rfl⟩ rfl (Nat.le_of_ble_eq_true rfl) (cc6_refuse (by omega) σ hf _ ⟨by omega, by omega⟩ hrf) (fun z51 s51 h51 => ?_)
        obtain ⟨rfl, rfl⟩ := h51
        refine g_ireturn dX6_peer_54 (Or.inl rfl) ⟨_, rfl, ?_⟩
        first
          | exact Or.inl ⟨hno, rfl, rfl⟩
          | exact Or.inr ⟨hin, Or.inl ⟨by omega, rfl, rfl⟩⟩
          | (refine Or.inr ⟨hin, Or.inr ⟨by omega, ?_, rfl⟩⟩
             have hpr : peS (mnC σ w) P p i = -9 ∨ 0 ≤ peS (mnC σ w) P p i := by
               unfold peS
               split
               · exact hper.imp id And.left
               · exact Or.inl rfl
             unfold peC at c66
             try unfold peC
             rcases hpr with e | e
             · rw [if_pos e] at c66
               first
                 | exact e.symm
                 | (exfalso; omega)
             · rw [if_neg (by omega)] at c66
               first
                 | exact if_neg (by omega)
                 | (exfalso; omega))
      · refine g_aload dX6_peer_40 rfl ?_
        refine g_getI dX6_peer_42 tf_6_186 (lc_s hs) rfl ?_
        refine g_if_ne (tgt := 55) dX6_peer_45 (by decide) (fun c45 => ?_) (fun c45 => ?_)
        · refine g_aload_n dX6_peer_55 rfl ?_
          refine g_iload_n dX6_peer_56 rfl ?_
          refine g_iload_n dX6_peer_57 rfl ?_
          refine g_iload_n dX6_peer_58 rfl ?_
          refine g_callvI dX6_peer_59 tm_6_189 rfl ⟨rfl, rfl⟩ rfl (Nat.le_of_ble_eq_true rfl) (cc6_peerOf (by omega) σ hf hg hb P hP p w (by omega) (by omega) i) (fun z59 s59 h59 => ?_)
          obtain ⟨rfl, e59⟩ := h59
          obtain rfl := e59.symm
          have hper := peF_r (mnC σ w) (P := P) p (P - 1) i.toNat (by omega)
          refine g_istore dX6_peer_62 (by decide) rfl ?_
          refine g_iload dX6_peer_64 rfl ?_
          refine g_if_ge (tgt := 74) dX6_peer_66 (by decide) (fun c66 => ?_) (fun c66 => ?_)
          · refine g_iload dX6_peer_74 rfl ?_
            refine g_ireturn dX6_peer_76 (Or.inl rfl) ⟨_, rfl, ?_⟩
            first
              | exact Or.inl ⟨hno, rfl, rfl⟩
              | exact Or.inr ⟨hin, Or.inl ⟨by omega, rfl, rfl⟩⟩
              | (refine Or.inr ⟨hin, Or.inr ⟨by omega, ?_, rfl⟩⟩
                 have hpr : peS (mnC σ w) P p i = -9 ∨ 0 ≤ peS (mnC σ w) P p i := by
                   unfold peS
                   split
                   · exact hper.imp id And.left
                   · exact Or.inl rfl
                 unfold peC at c66
                 try unfold peC
                 rcases hpr with e | e
                 · rw [if_pos e] at c66
                   first
                     | exact e.symm
                     | (exfalso; omega)
                 · rw [if_neg (by omega)] at c66
                   first
                     | exact if_neg (by omega)
                     | (exfalso; omega))
          · refine g_bipush dX6_peer_69 (by decide) ?_
            refine g_goto (tgt := 76) dX6_peer_71 (by decide) ?_
            refine g_ireturn dX6_peer_76 (Or.inl rfl) ⟨_, rfl, ?_⟩
            first
              | exact Or.inl ⟨hno, rfl, rfl⟩
              | exact Or.inr ⟨hin, Or.inl ⟨by omega, rfl, rfl⟩⟩
              | (refine Or.inr ⟨hin, Or.inr ⟨by omega, ?_, rfl⟩⟩
                 have hpr : peS (mnC σ w) P p i = -9 ∨ 0 ≤ peS (mnC σ w) P p i := by
                   unfold peS
                   split
                   · exact hper.imp id And.left
                   · exact Or.inl rfl
                 unfold peC at c66
                 try unfold peC
                 rcases hpr with e | e
                 · rw [if_pos e] at c66
                   first
                     | exact e.symm
                     | (exfalso; omega)
                 · rw [if_neg (by omega)] at c66
                   first
                     | exact if_neg (by omega)
                     | (exfalso; omega))
        · refine g_aload_n dX6_peer_48 rfl ?_
          refine g_bipush dX6_peer_49 (by decide) ?_
          refine g_callvI dX6_peer_51 tm_6_55 rfl ⟨rfl, rfl⟩ rfl (Nat.le_of_ble_eq_true rfl) (cc6_refuse (by omega) σ hf _ ⟨by omega, by omega⟩ hrf) (fun z51 s51 h51 => ?_)
          obtain ⟨rfl, rfl⟩ := h51
          refine g_ireturn dX6_peer_54 (Or.inl rfl) ⟨_, rfl, ?_⟩
          first
            | exact Or.inl ⟨hno, rfl, rfl⟩
            | exact Or.inr ⟨hin, Or.inl ⟨by omega, rfl, rfl⟩⟩
            | (refine Or.inr ⟨hin, Or.inr ⟨by omega, ?_, rfl⟩⟩
               have hpr : peS (mnC σ w) P p i = -9 ∨ 0 ≤ peS (mnC σ w) P p i := by
                 unfold peS
                 split
                 · exact hper.imp id And.left
                 · exact Or.inl rfl
               unfold peC at c66
               try unfold peC
               rcases hpr with e | e
               · rw [if_pos e] at c66
                 first
                   | exact e.symm
                   | (exfalso; omega)
               · rw [if_neg (by omega)] at c66
                 first
                   | exact if_neg (by omega)
                   | (exfalso; omega))

theorem cc6_show {D : Nat} (hD : 5 ≤ D) (σ : am_HS) {b : Nat} (hf : σ.2.2 = cH b) (hg : GC σ) (hb : rgC σ) (hmk : 0 ≤ hI σ 0 11 ∧ hI σ 0 11 ≤ 100000) (P : Nat) (hP : hI σ 0 7 = (P : Int)) (c p w v : Int) : am_Do lc D mX6_show σ [vR (some 0), vI c, vI p, vI w, vI v] (qI fun z s => (¬ (0 ≤ c ∧ c < hI σ 0 7 ∧ 0 ≤ p ∧ p < hI σ 0 7 ∧ 0 ≤ w ∧ w < hI σ 0 8) ∧ z = -1 ∧ s = uI σ 8 1 (hI σ 8 1 + 1)) ∨ ((0 ≤ c ∧ c < hI σ 0 7 ∧ 0 ≤ p ∧ p < hI σ 0 7 ∧ 0 ≤ w ∧ w < hI σ 0 8) ∧ (¬ ((hI σ (37 + w.toNat) 0 = 3 ∧ 0 < hI σ (47 + 4 * (10 * p.toNat + w.toNat)) 2) ∧ (peS (mnC σ w.toNat) P p.toNat 0 = c ∨ peS (mnC σ w.toNat) P p.toNat 1 = c) ∧ hI σ (47 + 4 * (10 * p.toNat + w.toNat) + 3) c.toNat < 0) ∧ z = -3 ∧ s = uI σ 8 3 (hI σ 8 3 + 1) ∨ ((hI σ (37 + w.toNat) 0 = 3 ∧ 0 < hI σ (47 + 4 * (10 * p.toNat + w.toNat)) 2) ∧ (peS (mnC σ w.toNat) P p.toNat 0 = c ∨ peS (mnC σ w.toNat) P p.toNat 1 = c) ∧ hI σ (47 + 4 * (10 * p.toNat + w.toNat) + 3) c.toNat < 0) ∧ (v < 0 ∧ z = -4 ∧ s = uI σ 8 4 (hI σ 8 4 + 1) ∨ 0 ≤ v ∧ hI σ (37 + w.toNat) 1 < v ∧ z = -6 ∧ s = uI σ 8 6 (hI σ 8 6 + 1) ∨ 0 ≤ v ∧ v ≤ hI σ (37 + w.toNat) 1 ∧ s = uI (uI σ 0 11 (hI σ 0 11 + 1)) (47 + 4 * (10 * p.toNat + w.toNat) + 3) c.toNat v ∧ z = shC s (10 * p.toNat + w.toNat))))) := by
  obtain ⟨hg1, hg2, hrf⟩ := id hg
  obtain ⟨d, rfl⟩ : ∃ d, D = d + 1 := ⟨D - 1, by omega⟩
  refine am_enter rfl rfl (Nat.le_of_ble_eq_true rfl) ?_
  refine g_aload_n dX6_show_0 rfl ?_
  refine g_iload_n dX6_show_1 rfl ?_
  refine g_callvR dX6_show_2 tm_6_67 rfl ⟨rfl, rfl⟩ rfl (Nat.le_of_ble_eq_true rfl) (cc6_workAt (by omega) σ hf _ (by omega)) (fun z2 s2 h2 => ?_)
  obtain ⟨h2, e2⟩ := h2
  obtain rfl := e2.symm
  refine g_astore dX6_show_5 (by decide) rfl ?_
  refine g_aload_n dX6_show_7 rfl ?_
  refine g_iload_n dX6_show_8 rfl ?_
  refine g_iload_n dX6_show_9 rfl ?_
  refine g_callvR dX6_show_10 tm_6_83 rfl ⟨rfl, rfl⟩ rfl (Nat.le_of_ble_eq_true rfl) (cc6_sheetOf (by omega) σ hf hg _ _) (fun z10 s10 h10 => ?_)
  obtain ⟨h10, e10⟩ := h10
  obtain rfl := e10.symm
  refine g_astore dX6_show_13 (by decide) rfl ?_
  refine g_aload_n dX6_show_15 rfl ?_
  refine g_iload_n dX6_show_16 rfl ?_
  refine g_callvI dX6_show_17 tm_6_59 rfl ⟨rfl, rfl⟩ rfl (Nat.le_of_ble_eq_true rfl) (cc6_isPupil (by omega) σ hf _ (by omega)) (fun z17 s17 h17 => ?_)
  obtain ⟨h17, e17⟩ := h17
  obtain rfl := e17.symm
  refine g_if_eq (tgt := 33) dX6_show_20 (by decide) (fun c20 => ?_) (fun c20 => ?_)
  · refine g_aload_n dX6_show_33 rfl ?_
    refine g_iconst dX6_show_34 ⟨by decide, by decide⟩ ?_
    refine g_callvI dX6_show_35 tm_6_55 rfl ⟨rfl, rfl⟩ rfl (Nat.le_of_ble_eq_true rfl) (cc6_refuse (by omega) σ hf _ ⟨by omega, by omega⟩ hrf) (fun z35 s35 h35 => ?_)
    obtain ⟨rfl, rfl⟩ := h35
    refine g_ireturn dX6_show_38 (Or.inl rfl) ⟨_, rfl, ?_⟩
    first
      | exact Or.inl ⟨hno, rfl, rfl⟩
      | exact Or.inl ⟨by omega, rfl, rfl⟩
      | exact Or.inr ⟨hin2, Or.inl ⟨fun hpe => by
          first
            | (have := hpe.1; omega)
            | (rcases h60 with ⟨a, _⟩ | ⟨_, a⟩; exact absurd (a.symm.trans c63) (by decide); exact a hpe.2.1)
            | (have := hpe.2.2; clear h60 hpe; omega), rfl, rfl⟩⟩
      | exact Or.inr ⟨hin2, Or.inr ⟨hpe, Or.inl ⟨by omega, rfl, rfl⟩⟩⟩
      | exact Or.inr ⟨hin2, Or.inr ⟨hpe, Or.inr (Or.inl ⟨by omega, by omega, rfl, rfl⟩)⟩⟩
      | exact Or.inr ⟨hin2, Or.inr ⟨hpe, Or.inr (Or.inr ⟨by omega, by omega, rfl, rfl⟩)⟩⟩
  · refine g_aload dX6_show_23 rfl ?_
    refine g_ifnull (tgt := 33) dX6_show_25 (by decide) (fun c25 => ?_) (fun c25 => ?_)
    · have hno : ¬ (0 ≤ c ∧ c < hI σ 0 7 ∧ 0 ≤ p ∧ p < hI σ 0 7 ∧ 0 ≤ w ∧ w < hI σ 0 8) := by
        rcases h2 with a | a
        · exact absurd (a.2.symm.trans c25) (by simp)
        · intro q; exact a.1 (by omega)
      refine g_aload_n dX6_show_33 rfl ?_
      refine g_iconst dX6_show_34 ⟨by decide, by decide⟩ ?_
      refine g_callvI dX6_show_35 tm_6_55 rfl ⟨rfl, rfl⟩ rfl (Nat.le_of_ble_eq_true rfl) (cc6_refuse (by omega) σ hf _ ⟨by omega, by omega⟩ hrf) (fun z35 s35 h35 => ?_)
      obtain ⟨rfl, rfl⟩ := h35
      refine g_ireturn dX6_show_38 (Or.inl rfl) ⟨_, rfl, ?_⟩
      first
        | exact Or.inl ⟨hno, rfl, rfl⟩
        | exact Or.inl ⟨by omega, rfl, rfl⟩
        | exact Or.inr ⟨hin2, Or.inl ⟨fun hpe => by
            first
              | (have := hpe.1; omega)
              | (rcases h60 with ⟨a, _⟩ | ⟨_, a⟩; exact absurd (a.symm.trans c63) (by decide); exact a hpe.2.1)
              | (have := hpe.2.2; clear h60 hpe; omega), rfl, rfl⟩⟩
        | exact Or.inr ⟨hin2, Or.inr ⟨hpe, Or.inl ⟨by omega, rfl, rfl⟩⟩⟩
        | exact Or.inr ⟨hin2, Or.inr ⟨hpe, Or.inr (Or.inl ⟨by omega, by omega, rfl, rfl⟩)⟩⟩
        | exact Or.inr ⟨hin2, Or.inr ⟨hpe, Or.inr (Or.inr ⟨by omega, by omega, rfl, rfl⟩)⟩⟩
    · obtain ⟨hwi, rfl⟩ : (0 ≤ w ∧ w < hI σ 0 8) ∧ z2 = some (37 + w.toNat) := by
        rcases h2 with a | a
        · exact a
        · exact absurd a.2 c25
      clear h2
      refine g_aload dX6_show_28 rfl ?_
      refine g_ifnonnull (tgt := 39) dX6_show_30 (by decide) (fun c30 => ?_) (fun c30 => ?_)
      · have hno : ¬ (0 ≤ c ∧ c < hI σ 0 7 ∧ 0 ≤ p ∧ p < hI σ 0 7 ∧ 0 ≤ w ∧ w < hI σ 0 8) := by
          rcases h10 with a | a
          · exact absurd (a.2.symm.trans c30) (by simp)
          · intro q; exact a.1 (by omega)
        refine g_aload_n dX6_show_33 rfl ?_
        refine g_iconst dX6_show_34 ⟨by decide, by decide⟩ ?_
        refine g_callvI dX6_show_35 tm_6_55 rfl ⟨rfl, rfl⟩ rfl (Nat.le_of_ble_eq_true rfl) (cc6_refuse (by omega) σ hf _ ⟨by omega, by omega⟩ hrf) (fun z35 s35 h35 => ?_)
        obtain ⟨rfl, rfl⟩ := h35
        refine g_ireturn dX6_show_38 (Or.inl rfl) ⟨_, rfl, ?_⟩
        first
          | exact Or.inl ⟨hno, rfl, rfl⟩
          | exact Or.inl ⟨by omega, rfl, rfl⟩
          | exact Or.inr ⟨hin2, Or.inl ⟨fun hpe => by
              first
                | (have := hpe.1; omega)
                | (rcases h60 with ⟨a, _⟩ | ⟨_, a⟩; exact absurd (a.symm.trans c63) (by decide); exact a hpe.2.1)
                | (have := hpe.2.2; clear h60 hpe; omega), rfl, rfl⟩⟩
          | exact Or.inr ⟨hin2, Or.inr ⟨hpe, Or.inl ⟨by omega, rfl, rfl⟩⟩⟩
          | exact Or.inr ⟨hin2, Or.inr ⟨hpe, Or.inr (Or.inl ⟨by omega, by omega, rfl, rfl⟩)⟩⟩
          | exact Or.inr ⟨hin2, Or.inr ⟨hpe, Or.inr (Or.inr ⟨by omega, by omega, rfl, rfl⟩)⟩⟩
      · obtain ⟨hin, rfl⟩ : (0 ≤ p ∧ p < hI σ 0 7 ∧ 0 ≤ w ∧ w < hI σ 0 8) ∧ z10 = some (47 + 4 * (10 * p + w).toNat) := by
          rcases h10 with a | a
          · exact a
          · exact absurd a.2 c30
        clear h10
        obtain ⟨p, rfl⟩ : ∃ q : Nat, p = (q : Int) := ⟨p.toNat, by omega⟩
        obtain ⟨w, rfl⟩ : ∃ q : Nat, w = (q : Int) := ⟨w.toNat, by omega⟩
        have hp : p < 6 := by omega
        have hw : w < 10 := by omega
        have hs : 10 * p + w < 60 := by omega
        have ek : (10 * (p : Int) + (w : Int)).toNat = 10 * p + w := by omega
        simp only [Int.toNat_natCast]
        rw [ek]
        obtain ⟨c, rfl⟩ : ∃ q : Nat, c = (q : Int) := ⟨c.toNat, by omega⟩
        simp only [Int.toNat_natCast]
        have hrk := hb.1 (10 * p + w) hs
        have hin2 : 0 ≤ (c : Int) ∧ (c : Int) < hI σ 0 7 ∧ 0 ≤ (p : Int) ∧ (p : Int) < hI σ 0 7 ∧ 0 ≤ (w : Int) ∧ (w : Int) < hI σ 0 8 := by omega
        have hc6 : c < 6 := by omega
        refine g_aload dX6_show_39 rfl ?_
        refine g_getI dX6_show_41 tf_6_71 (lc_w hw) rfl ?_
        refine g_iconst dX6_show_44 ⟨by decide, by decide⟩ ?_
        refine g_icmp_ne (tgt := 75) dX6_show_45 (by decide) (fun c45 => ?_) (fun c45 => ?_)
        · refine g_aload_n dX6_show_75 rfl ?_
          refine g_bipush dX6_show_76 (by decide) ?_
          refine g_callvI dX6_show_78 tm_6_55 rfl ⟨rfl, rfl⟩ rfl (Nat.le_of_ble_eq_true rfl) (cc6_refuse (by omega) σ hf _ ⟨by omega, by omega⟩ hrf) (fun z78 s78 h78 => ?_)
          obtain ⟨rfl, rfl⟩ := h78
          refine g_ireturn dX6_show_81 (Or.inl rfl) ⟨_, rfl, ?_⟩
          first
            | exact Or.inl ⟨hno, rfl, rfl⟩
            | exact Or.inl ⟨by omega, rfl, rfl⟩
            | exact Or.inr ⟨hin2, Or.inl ⟨fun hpe => by
                first
                  | (have := hpe.1; omega)
                  | (rcases h60 with ⟨a, _⟩ | ⟨_, a⟩; exact absurd (a.symm.trans c63) (by decide); exact a hpe.2.1)
                  | (have := hpe.2.2; clear h60 hpe; omega), rfl, rfl⟩⟩
            | exact Or.inr ⟨hin2, Or.inr ⟨hpe, Or.inl ⟨by omega, rfl, rfl⟩⟩⟩
            | exact Or.inr ⟨hin2, Or.inr ⟨hpe, Or.inr (Or.inl ⟨by omega, by omega, rfl, rfl⟩)⟩⟩
            | exact Or.inr ⟨hin2, Or.inr ⟨hpe, Or.inr (Or.inr ⟨by omega, by omega, rfl, rfl⟩)⟩⟩
        · refine g_aload dX6_show_48 rfl ?_
          refine g_getI dX6_show_50 tf_6_186 (lc_s hs) rfl ?_
          refine g_if_eq (tgt := 75) dX6_show_53 (by decide) (fun c53 => ?_) (fun c53 => ?_)
          · refine g_aload_n dX6_show_75 rfl ?_
            refine g_bipush dX6_show_76 (by decide) ?_
            refine g_callvI dX6_show_78 tm_6_55 rfl ⟨rfl, rfl⟩ rfl (Nat.le_of_ble_eq_true rfl) (cc6_refuse (by omega) σ hf _ ⟨by omega, by omega⟩ hrf) (fun z78 s78 h78 => ?_)
            obtain ⟨rfl, rfl⟩ := h78
            refine g_ireturn dX6_show_81 (Or.inl rfl) ⟨_, rfl, ?_⟩
            first
              | exact Or.inl ⟨hno, rfl, rfl⟩
              | exact Or.inl ⟨by omega, rfl, rfl⟩
              | exact Or.inr ⟨hin2, Or.inl ⟨fun hpe => by
                  first
                    | (have := hpe.1; omega)
                    | (rcases h60 with ⟨a, _⟩ | ⟨_, a⟩; exact absurd (a.symm.trans c63) (by decide); exact a hpe.2.1)
                    | (have := hpe.2.2; clear h60 hpe; omega), rfl, rfl⟩⟩
              | exact Or.inr ⟨hin2, Or.inr ⟨hpe, Or.inl ⟨by omega, rfl, rfl⟩⟩⟩
              | exact Or.inr ⟨hin2, Or.inr ⟨hpe, Or.inr (Or.inl ⟨by omega, by omega, rfl, rfl⟩)⟩⟩
              | exact Or.inr ⟨hin2, Or.inr ⟨hpe, Or.inr (Or.inr ⟨by omega, by omega, rfl, rfl⟩)⟩⟩
          · refine g_aload_n dX6_show_56 rfl ?_
            refine g_iload_n dX6_show_57 rfl ?_
            refine g_iload_n dX6_show_58 rfl ?_
            refine g_iload_n dX6_show_59 rfl ?_
            refine g_callvI dX6_show_60 tm_6_193 rfl ⟨rfl, rfl⟩ rfl (Nat.le_of_ble_eq_true rfl) (cc6_isPeer (by omega) σ hf hg hb P hP c p w (by omega) (by omega)) (fun z60 s60 h60 => ?_)
            obtain ⟨h60, e60⟩ := h60
            obtain rfl := e60.symm
            refine g_if_eq (tgt := 75) dX6_show_63 (by decide) (fun c63 => ?_) (fun c63 => ?_)
            · refine g_aload_n dX6_show_75 rfl ?_
              refine g_bipush dX6_show_76 (by decide) ?_
              refine g_callvI dX6_show_78 tm_6_55 rfl ⟨rfl, rfl⟩ rfl (Nat.le_of_ble_eq_true rfl) (cc6_refuse (by omega) σ hf _ ⟨by omega, by omega⟩ hrf) (fun z78 s78 h78 => ?_)
              obtain ⟨rfl, rfl⟩ := h78
              refine g_ireturn dX6_show_81 (Or.inl rfl) ⟨_, rfl, ?_⟩
              first
                | exact Or.inl ⟨hno, rfl, rfl⟩
                | exact Or.inl ⟨by omega, rfl, rfl⟩
                | exact Or.inr ⟨hin2, Or.inl ⟨fun hpe => by
                    first
                      | (have := hpe.1; omega)
                      | (rcases h60 with ⟨a, _⟩ | ⟨_, a⟩; exact absurd (a.symm.trans c63) (by decide); exact a hpe.2.1)
                      | (have := hpe.2.2; clear h60 hpe; omega), rfl, rfl⟩⟩
                | exact Or.inr ⟨hin2, Or.inr ⟨hpe, Or.inl ⟨by omega, rfl, rfl⟩⟩⟩
                | exact Or.inr ⟨hin2, Or.inr ⟨hpe, Or.inr (Or.inl ⟨by omega, by omega, rfl, rfl⟩)⟩⟩
                | exact Or.inr ⟨hin2, Or.inr ⟨hpe, Or.inr (Or.inr ⟨by omega, by omega, rfl, rfl⟩)⟩⟩
            · refine g_aload dX6_show_66 rfl ?_
              refine g_iload_n dX6_show_68 rfl ?_
              refine g_callvI dX6_show_69 tm_6_197 rfl ⟨rfl, rfl⟩ (lc_s hs) (Nat.le_of_ble_eq_true rfl) (cc3_hasShown (by omega) σ hf hs c hc6) (fun z69 s69 h69 => ?_)
              obtain ⟨h69, e69⟩ := h69
              obtain rfl := e69.symm
              refine g_if_eq (tgt := 82) dX6_show_72 (by decide) (fun c72 => ?_) (fun c72 => ?_)
              · have hpe : ((hI σ (37 + w) 0 = 3 ∧ 0 < hI σ (47 + 4 * (10 * p + w)) 2) ∧ (peS (mnC σ w) P p 0 = (c : Int) ∨ peS (mnC σ w) P p 1 = (c : Int)) ∧ hI σ (47 + 4 * (10 * p + w) + 3) c < 0) := ⟨by omega, by rcases h60 with ⟨_, a⟩ | ⟨a, _⟩; exact a; exact absurd a c63, by clear h60; omega⟩
                clear h60
                refine g_iload dX6_show_82 rfl ?_
                refine g_if_ge (tgt := 94) dX6_show_84 (by decide) (fun c84 => ?_) (fun c84 => ?_)
                · refine g_iload dX6_show_94 rfl ?_
                  refine g_aload dX6_show_96 rfl ?_
                  refine g_getI dX6_show_98 tf_6_74 (lc_w hw) rfl ?_
                  refine g_icmp_le (tgt := 111) dX6_show_101 (by decide) (fun c101 => ?_) (fun c101 => ?_)
                  · refine g_aload_n dX6_show_111 rfl ?_
                    refine g_dup dX6_show_112 rfl ?_
                    refine g_getI dX6_show_113 tf_6_183 rfl rfl ?_
                    refine g_iconst dX6_show_116 ⟨by decide, by decide⟩ ?_
                    refine g_iadd dX6_show_117 rfl ⟨by omega, by omega⟩ ?_
                    refine g_putI dX6_show_118 tf_6_183 rfl rfl rfl ?_
                    refine g_aload dX6_show_121 rfl ?_
                    refine g_iload_n dX6_show_123 rfl ?_
                    refine g_iload dX6_show_124 rfl ?_
                    refine g_callvI dX6_show_126 tm_6_200 rfl ⟨rfl, rfl⟩ (lc_s hs) (Nat.le_of_ble_eq_true rfl) (cc3_putShown (by omega) (uI σ 0 11 (hI σ 0 11 + 1)) hf hs c hc6 v) (fun z126 s126 h126 => ?_)
                    obtain ⟨rfl, rfl⟩ := h126
                    refine g_ireturn dX6_show_129 (Or.inl rfl) ⟨_, rfl, ?_⟩
                    first
                      | exact Or.inl ⟨hno, rfl, rfl⟩
                      | exact Or.inl ⟨by omega, rfl, rfl⟩
                      | exact Or.inr ⟨hin2, Or.inl ⟨fun hpe => by
                          first
                            | (have := hpe.1; omega)
                            | (rcases h60 with ⟨a, _⟩ | ⟨_, a⟩; exact absurd (a.symm.trans c63) (by decide); exact a hpe.2.1)
                            | (have := hpe.2.2; clear h60 hpe; omega), rfl, rfl⟩⟩
                      | exact Or.inr ⟨hin2, Or.inr ⟨hpe, Or.inl ⟨by omega, rfl, rfl⟩⟩⟩
                      | exact Or.inr ⟨hin2, Or.inr ⟨hpe, Or.inr (Or.inl ⟨by omega, by omega, rfl, rfl⟩)⟩⟩
                      | exact Or.inr ⟨hin2, Or.inr ⟨hpe, Or.inr (Or.inr ⟨by omega, by omega, rfl, rfl⟩)⟩⟩
                  · refine g_aload_n dX6_show_104 rfl ?_
                    refine g_bipush dX6_show_105 (by decide) ?_
                    refine g_callvI dX6_show_107 tm_6_55 rfl ⟨rfl, rfl⟩ rfl (Nat.le_of_ble_eq_true rfl) (cc6_refuse (by omega) σ hf _ ⟨by omega, by omega⟩ hrf) (fun z107 s107 h107 => ?_)
                    obtain ⟨rfl, rfl⟩ := h107
                    refine g_ireturn dX6_show_110 (Or.inl rfl) ⟨_, rfl, ?_⟩
                    first
                      | exact Or.inl ⟨hno, rfl, rfl⟩
                      | exact Or.inl ⟨by omega, rfl, rfl⟩
                      | exact Or.inr ⟨hin2, Or.inl ⟨fun hpe => by
                          first
                            | (have := hpe.1; omega)
                            | (rcases h60 with ⟨a, _⟩ | ⟨_, a⟩; exact absurd (a.symm.trans c63) (by decide); exact a hpe.2.1)
                            | (have := hpe.2.2; clear h60 hpe; omega), rfl, rfl⟩⟩
                      | exact Or.inr ⟨hin2, Or.inr ⟨hpe, Or.inl ⟨by omega, rfl, rfl⟩⟩⟩
                      | exact Or.inr ⟨hin2, Or.inr ⟨hpe, Or.inr (Or.inl ⟨by omega, by omega, rfl, rfl⟩)⟩⟩
                      | exact Or.inr ⟨hin2, Or.inr ⟨hpe, Or.inr (Or.inr ⟨by omega, by omega, rfl, rfl⟩)⟩⟩
                · refine g_aload_n dX6_show_87 rfl ?_
                  refine g_bipush dX6_show_88 (by decide) ?_
                  refine g_callvI dX6_show_90 tm_6_55 rfl ⟨rfl, rfl⟩ rfl (Nat.le_of_ble_eq_true rfl) (cc6_refuse (by omega) σ hf _ ⟨by omega, by omega⟩ hrf) (fun z90 s90 h90 => ?_)
                  obtain ⟨rfl, rfl⟩ := h90
                  refine g_ireturn dX6_show_93 (Or.inl rfl) ⟨_, rfl, ?_⟩
                  first
                    | exact Or.inl ⟨hno, rfl, rfl⟩
                    | exact Or.inl ⟨by omega, rfl, rfl⟩
                    | exact Or.inr ⟨hin2, Or.inl ⟨fun hpe => by
                        first
                          | (have := hpe.1; omega)
                          | (rcases h60 with ⟨a, _⟩ | ⟨_, a⟩; exact absurd (a.symm.trans c63) (by decide); exact a hpe.2.1)
                          | (have := hpe.2.2; clear h60 hpe; omega), rfl, rfl⟩⟩
                    | exact Or.inr ⟨hin2, Or.inr ⟨hpe, Or.inl ⟨by omega, rfl, rfl⟩⟩⟩
                    | exact Or.inr ⟨hin2, Or.inr ⟨hpe, Or.inr (Or.inl ⟨by omega, by omega, rfl, rfl⟩)⟩⟩
                    | exact Or.inr ⟨hin2, Or.inr ⟨hpe, Or.inr (Or.inr ⟨by omega, by omega, rfl, rfl⟩)⟩⟩
              · refine g_aload_n dX6_show_75 rfl ?_
                refine g_bipush dX6_show_76 (by decide) ?_
                refine g_callvI dX6_show_78 tm_6_55 rfl ⟨rfl, rfl⟩ rfl (Nat.le_of_ble_eq_true rfl) (cc6_refuse (by omega) σ hf _ ⟨by omega, by omega⟩ hrf) (fun z78 s78 h78 => ?_)
                obtain ⟨rfl, rfl⟩ := h78
                refine g_ireturn dX6_show_81 (Or.inl rfl) ⟨_, rfl, ?_⟩
                first
                  | exact Or.inl ⟨hno, rfl, rfl⟩
                  | exact Or.inl ⟨by omega, rfl, rfl⟩
                  | exact Or.inr ⟨hin2, Or.inl ⟨fun hpe => by
                      first
                        | (have := hpe.1; omega)
                        | (rcases h60 with ⟨a, _⟩ | ⟨_, a⟩; exact absurd (a.symm.trans c63) (by decide); exact a hpe.2.1)
                        | (have := hpe.2.2; clear h60 hpe; omega), rfl, rfl⟩⟩
                  | exact Or.inr ⟨hin2, Or.inr ⟨hpe, Or.inl ⟨by omega, rfl, rfl⟩⟩⟩
                  | exact Or.inr ⟨hin2, Or.inr ⟨hpe, Or.inr (Or.inl ⟨by omega, by omega, rfl, rfl⟩)⟩⟩
                  | exact Or.inr ⟨hin2, Or.inr ⟨hpe, Or.inr (Or.inr ⟨by omega, by omega, rfl, rfl⟩)⟩⟩

theorem cc6_appeal {D : Nat} (hD : 4 ≤ D) (σ : am_HS) {b : Nat} (hf : σ.2.2 = cH b) (hg : GC σ) (hb : rgC σ) (ha : 0 ≤ hI σ 0 12 ∧ hI σ 0 12 ≤ 100000) (p w v : Int) : am_Do lc D mX6_appeal σ [vR (some 0), vI p, vI w, vI v] (qI fun z s => (¬ (0 ≤ p ∧ p < hI σ 0 7 ∧ 0 ≤ w ∧ w < hI σ 0 8) ∧ z = -1 ∧ s = uI σ 8 1 (hI σ 8 1 + 1)) ∨ ((0 ≤ p ∧ p < hI σ 0 7 ∧ 0 ≤ w ∧ w < hI σ 0 8) ∧ ((hI σ (37 + w.toNat) 0 = 3 ∨ lmC σ (10 * p.toNat + w.toNat) < 0) ∧ z = -3 ∧ s = uI σ 8 3 (hI σ 8 3 + 1) ∨ ¬ (hI σ (37 + w.toNat) 0 = 3 ∨ lmC σ (10 * p.toNat + w.toNat) < 0) ∧ (v < 0 ∧ z = -4 ∧ s = uI σ 8 4 (hI σ 8 4 + 1) ∨ hI σ (37 + w.toNat) 1 < v ∧ 0 ≤ v ∧ z = -6 ∧ s = uI σ 8 6 (hI σ 8 6 + 1) ∨ 0 ≤ v ∧ v ≤ hI σ (37 + w.toNat) 1 ∧ z = hI σ (47 + 4 * (10 * p.toNat + w.toNat) + 2) (lmC σ (10 * p.toNat + w.toNat)).toNat ∧ s = uI (uI σ 0 12 (hI σ 0 12 + 1)) (47 + 4 * (10 * p.toNat + w.toNat) + 2) (lmC σ (10 * p.toNat + w.toNat)).toNat v)))) := by
  obtain ⟨hg1, hg2, hrf⟩ := id hg
  obtain ⟨d, rfl⟩ : ∃ d, D = d + 1 := ⟨D - 1, by omega⟩
  refine am_enter rfl rfl (Nat.le_of_ble_eq_true rfl) ?_
  refine g_aload_n dX6_appeal_0 rfl ?_
  refine g_iload_n dX6_appeal_1 rfl ?_
  refine g_callvR dX6_appeal_2 tm_6_67 rfl ⟨rfl, rfl⟩ rfl (Nat.le_of_ble_eq_true rfl) (cc6_workAt (by omega) σ hf _ (by omega)) (fun z2 s2 h2 => ?_)
  obtain ⟨h2, e2⟩ := h2
  obtain rfl := e2.symm
  refine g_astore dX6_appeal_5 (by decide) rfl ?_
  refine g_aload_n dX6_appeal_7 rfl ?_
  refine g_iload_n dX6_appeal_8 rfl ?_
  refine g_iload_n dX6_appeal_9 rfl ?_
  refine g_callvR dX6_appeal_10 tm_6_83 rfl ⟨rfl, rfl⟩ rfl (Nat.le_of_ble_eq_true rfl) (cc6_sheetOf (by omega) σ hf hg _ _) (fun z10 s10 h10 => ?_)
  obtain ⟨h10, e10⟩ := h10
  obtain rfl := e10.symm
  refine g_astore dX6_appeal_13 (by decide) rfl ?_
  refine g_aload dX6_appeal_15 rfl ?_
  refine g_ifnull (tgt := 25) dX6_appeal_17 (by decide) (fun c17 => ?_) (fun c17 => ?_)
  · have hno : ¬ (0 ≤ p ∧ p < hI σ 0 7 ∧ 0 ≤ w ∧ w < hI σ 0 8) := by
      rcases h2 with a | a
      · exact absurd (a.2.symm.trans c17) (by simp)
      · intro q; exact a.1 (by omega)
    refine g_aload_n dX6_appeal_25 rfl ?_
    refine g_iconst dX6_appeal_26 ⟨by decide, by decide⟩ ?_
    refine g_callvI dX6_appeal_27 tm_6_55 rfl ⟨rfl, rfl⟩ rfl (Nat.le_of_ble_eq_true rfl) (cc6_refuse (by omega) σ hf _ ⟨by omega, by omega⟩ hrf) (fun z27 s27 h27 => ?_)
    obtain ⟨rfl, rfl⟩ := h27
    refine g_ireturn dX6_appeal_30 (Or.inl rfl) ⟨_, rfl, ?_⟩
    first
      | exact Or.inl ⟨hno, rfl, rfl⟩
      | exact Or.inr ⟨hin, Or.inl ⟨by omega, rfl, rfl⟩⟩
      | exact Or.inr ⟨hin, Or.inr ⟨by omega, Or.inl ⟨by omega, rfl, rfl⟩⟩⟩
      | exact Or.inr ⟨hin, Or.inr ⟨by omega, Or.inr (Or.inl ⟨by omega, by omega, rfl, rfl⟩)⟩⟩
      | (refine Or.inr ⟨hin, Or.inr ⟨by omega, Or.inr (Or.inr ⟨by omega, by omega, ?_, rfl⟩)⟩⟩
         exact hI_uI_n (by omega))
  · obtain ⟨hwi, rfl⟩ : (0 ≤ w ∧ w < hI σ 0 8) ∧ z2 = some (37 + w.toNat) := by
      rcases h2 with a | a
      · exact a
      · exact absurd a.2 c17
    clear h2
    refine g_aload dX6_appeal_20 rfl ?_
    refine g_ifnonnull (tgt := 31) dX6_appeal_22 (by decide) (fun c22 => ?_) (fun c22 => ?_)
    · have hno : ¬ (0 ≤ p ∧ p < hI σ 0 7 ∧ 0 ≤ w ∧ w < hI σ 0 8) := by
        rcases h10 with a | a
        · exact absurd (a.2.symm.trans c22) (by simp)
        · intro q; exact a.1 (by omega)
      refine g_aload_n dX6_appeal_25 rfl ?_
      refine g_iconst dX6_appeal_26 ⟨by decide, by decide⟩ ?_
      refine g_callvI dX6_appeal_27 tm_6_55 rfl ⟨rfl, rfl⟩ rfl (Nat.le_of_ble_eq_true rfl) (cc6_refuse (by omega) σ hf _ ⟨by omega, by omega⟩ hrf) (fun z27 s27 h27 => ?_)
      obtain ⟨rfl, rfl⟩ := h27
      refine g_ireturn dX6_appeal_30 (Or.inl rfl) ⟨_, rfl, ?_⟩
      first
        | exact Or.inl ⟨hno, rfl, rfl⟩
        | exact Or.inr ⟨hin, Or.inl ⟨by omega, rfl, rfl⟩⟩
        | exact Or.inr ⟨hin, Or.inr ⟨by omega, Or.inl ⟨by omega, rfl, rfl⟩⟩⟩
        | exact Or.inr ⟨hin, Or.inr ⟨by omega, Or.inr (Or.inl ⟨by omega, by omega, rfl, rfl⟩)⟩⟩
        | (refine Or.inr ⟨hin, Or.inr ⟨by omega, Or.inr (Or.inr ⟨by omega, by omega, ?_, rfl⟩)⟩⟩
           exact hI_uI_n (by omega))
    · obtain ⟨hin, rfl⟩ : (0 ≤ p ∧ p < hI σ 0 7 ∧ 0 ≤ w ∧ w < hI σ 0 8) ∧ z10 = some (47 + 4 * (10 * p + w).toNat) := by
        rcases h10 with a | a
        · exact a
        · exact absurd a.2 c22
      clear h10
      obtain ⟨p, rfl⟩ : ∃ q : Nat, p = (q : Int) := ⟨p.toNat, by omega⟩
      obtain ⟨w, rfl⟩ : ∃ q : Nat, w = (q : Int) := ⟨w.toNat, by omega⟩
      have hp : p < 6 := by omega
      have hw : w < 10 := by omega
      have hs : 10 * p + w < 60 := by omega
      have ek : (10 * (p : Int) + (w : Int)).toNat = 10 * p + w := by omega
      simp only [Int.toNat_natCast]
      rw [ek]
      have hlm := lmF_r (fun t => hI σ (47 + 4 * (10 * p + w) + 2) t) 3
      have hlm1 : -1 ≤ lmC σ (10 * p + w) ∧ lmC σ (10 * p + w) < 3 := ⟨hlm.1, hlm.2.1⟩
      refine g_aload dX6_appeal_31 rfl ?_
      refine g_callvI dX6_appeal_33 tm_6_203 rfl ⟨rfl, rfl⟩ (lc_s hs) (Nat.le_of_ble_eq_true rfl) (cc3_lastMarked (by omega) σ hf hs) (fun z33 s33 h33 => ?_)
      obtain ⟨rfl, e33⟩ := h33
      obtain rfl := e33.symm
      refine g_istore dX6_appeal_36 (by decide) rfl ?_
      refine g_aload dX6_appeal_38 rfl ?_
      refine g_getI dX6_appeal_40 tf_6_71 (lc_w hw) rfl ?_
      refine g_iconst dX6_appeal_43 ⟨by decide, by decide⟩ ?_
      refine g_icmp_eq (tgt := 52) dX6_appeal_44 (by decide) (fun c44 => ?_) (fun c44 => ?_)
      · refine g_aload_n dX6_appeal_52 rfl ?_
        refine g_bipush dX6_appeal_53 (by decide) ?_
        refine g_callvI dX6_appeal_55 tm_6_55 rfl ⟨rfl, rfl⟩ rfl (Nat.le_of_ble_eq_true rfl) (cc6_refuse (by omega) σ hf _ ⟨by omega, by omega⟩ hrf) (fun z55 s55 h55 => ?_)
        obtain ⟨rfl, rfl⟩ := h55
        refine g_ireturn dX6_appeal_58 (Or.inl rfl) ⟨_, rfl, ?_⟩
        first
          | exact Or.inl ⟨hno, rfl, rfl⟩
          | exact Or.inr ⟨hin, Or.inl ⟨by omega, rfl, rfl⟩⟩
          | exact Or.inr ⟨hin, Or.inr ⟨by omega, Or.inl ⟨by omega, rfl, rfl⟩⟩⟩
          | exact Or.inr ⟨hin, Or.inr ⟨by omega, Or.inr (Or.inl ⟨by omega, by omega, rfl, rfl⟩)⟩⟩
          | (refine Or.inr ⟨hin, Or.inr ⟨by omega, Or.inr (Or.inr ⟨by omega, by omega, ?_, rfl⟩)⟩⟩
             exact hI_uI_n (by omega))
      · refine g_iload dX6_appeal_47 rfl ?_
        refine g_if_ge (tgt := 59) dX6_appeal_49 (by decide) (fun c49 => ?_) (fun c49 => ?_)
        · refine g_iload_n dX6_appeal_59 rfl ?_
          refine g_if_ge (tgt := 70) dX6_appeal_60 (by decide) (fun c60 => ?_) (fun c60 => ?_)
          · refine g_iload_n dX6_appeal_70 rfl ?_
            refine g_aload dX6_appeal_71 rfl ?_
            refine g_getI dX6_appeal_73 tf_6_74 (lc_w hw) rfl ?_
            refine g_icmp_le (tgt := 86) dX6_appeal_76 (by decide) (fun c76 => ?_) (fun c76 => ?_)
            · refine g_aload_n dX6_appeal_86 rfl ?_
              refine g_dup dX6_appeal_87 rfl ?_
              refine g_getI dX6_appeal_88 tf_6_206 rfl rfl ?_
              refine g_iconst dX6_appeal_91 ⟨by decide, by decide⟩ ?_
              refine g_iadd dX6_appeal_92 rfl ⟨by omega, by omega⟩ ?_
              refine g_putI dX6_appeal_93 tf_6_206 rfl rfl rfl ?_
              refine g_aload dX6_appeal_96 rfl ?_
              refine g_iload dX6_appeal_98 rfl ?_
              refine g_iload_n dX6_appeal_100 rfl ?_
              obtain ⟨t, ht⟩ : ∃ t : Nat, lmC σ (10 * p + w) = (t : Int) := ⟨(lmC σ (10 * p + w)).toNat, by omega⟩
              rw [ht]
              refine g_callvI dX6_appeal_101 tm_6_180 rfl ⟨rfl, rfl⟩ (lc_s hs) (Nat.le_of_ble_eq_true rfl) (cc3_put (by omega) (uI σ 0 12 (hI σ 0 12 + 1)) hf hs t (by omega) v) (fun z101 s101 h101 => ?_)
              obtain ⟨rfl, rfl⟩ := h101
              refine g_ireturn dX6_appeal_104 (Or.inl rfl) ⟨_, rfl, ?_⟩
              first
                | exact Or.inl ⟨hno, rfl, rfl⟩
                | exact Or.inr ⟨hin, Or.inl ⟨by omega, rfl, rfl⟩⟩
                | exact Or.inr ⟨hin, Or.inr ⟨by omega, Or.inl ⟨by omega, rfl, rfl⟩⟩⟩
                | exact Or.inr ⟨hin, Or.inr ⟨by omega, Or.inr (Or.inl ⟨by omega, by omega, rfl, rfl⟩)⟩⟩
                | (refine Or.inr ⟨hin, Or.inr ⟨by omega, Or.inr (Or.inr ⟨by omega, by omega, ?_, rfl⟩)⟩⟩
                   exact hI_uI_n (by omega))
            · refine g_aload_n dX6_appeal_79 rfl ?_
              refine g_bipush dX6_appeal_80 (by decide) ?_
              refine g_callvI dX6_appeal_82 tm_6_55 rfl ⟨rfl, rfl⟩ rfl (Nat.le_of_ble_eq_true rfl) (cc6_refuse (by omega) σ hf _ ⟨by omega, by omega⟩ hrf) (fun z82 s82 h82 => ?_)
              obtain ⟨rfl, rfl⟩ := h82
              refine g_ireturn dX6_appeal_85 (Or.inl rfl) ⟨_, rfl, ?_⟩
              first
                | exact Or.inl ⟨hno, rfl, rfl⟩
                | exact Or.inr ⟨hin, Or.inl ⟨by omega, rfl, rfl⟩⟩
                | exact Or.inr ⟨hin, Or.inr ⟨by omega, Or.inl ⟨by omega, rfl, rfl⟩⟩⟩
                | exact Or.inr ⟨hin, Or.inr ⟨by omega, Or.inr (Or.inl ⟨by omega, by omega, rfl, rfl⟩)⟩⟩
                | (refine Or.inr ⟨hin, Or.inr ⟨by omega, Or.inr (Or.inr ⟨by omega, by omega, ?_, rfl⟩)⟩⟩
                   exact hI_uI_n (by omega))
          · refine g_aload_n dX6_appeal_63 rfl ?_
            refine g_bipush dX6_appeal_64 (by decide) ?_
            refine g_callvI dX6_appeal_66 tm_6_55 rfl ⟨rfl, rfl⟩ rfl (Nat.le_of_ble_eq_true rfl) (cc6_refuse (by omega) σ hf _ ⟨by omega, by omega⟩ hrf) (fun z66 s66 h66 => ?_)
            obtain ⟨rfl, rfl⟩ := h66
            refine g_ireturn dX6_appeal_69 (Or.inl rfl) ⟨_, rfl, ?_⟩
            first
              | exact Or.inl ⟨hno, rfl, rfl⟩
              | exact Or.inr ⟨hin, Or.inl ⟨by omega, rfl, rfl⟩⟩
              | exact Or.inr ⟨hin, Or.inr ⟨by omega, Or.inl ⟨by omega, rfl, rfl⟩⟩⟩
              | exact Or.inr ⟨hin, Or.inr ⟨by omega, Or.inr (Or.inl ⟨by omega, by omega, rfl, rfl⟩)⟩⟩
              | (refine Or.inr ⟨hin, Or.inr ⟨by omega, Or.inr (Or.inr ⟨by omega, by omega, ?_, rfl⟩)⟩⟩
                 exact hI_uI_n (by omega))
        · refine g_aload_n dX6_appeal_52 rfl ?_
          refine g_bipush dX6_appeal_53 (by decide) ?_
          refine g_callvI dX6_appeal_55 tm_6_55 rfl ⟨rfl, rfl⟩ rfl (Nat.le_of_ble_eq_true rfl) (cc6_refuse (by omega) σ hf _ ⟨by omega, by omega⟩ hrf) (fun z55 s55 h55 => ?_)
          obtain ⟨rfl, rfl⟩ := h55
          refine g_ireturn dX6_appeal_58 (Or.inl rfl) ⟨_, rfl, ?_⟩
          first
            | exact Or.inl ⟨hno, rfl, rfl⟩
            | exact Or.inr ⟨hin, Or.inl ⟨by omega, rfl, rfl⟩⟩
            | exact Or.inr ⟨hin, Or.inr ⟨by omega, Or.inl ⟨by omega, rfl, rfl⟩⟩⟩
            | exact Or.inr ⟨hin, Or.inr ⟨by omega, Or.inr (Or.inl ⟨by omega, by omega, rfl, rfl⟩)⟩⟩
            | (refine Or.inr ⟨hin, Or.inr ⟨by omega, Or.inr (Or.inr ⟨by omega, by omega, ?_, rfl⟩)⟩⟩
               exact hI_uI_n (by omega))

theorem wvC_ok (σ : am_HS) (k w : Nat) : vok (wvC σ k w) := by
  unfold wvC
  split
  · trivial
  · split
    · split
      · exact vok01
      · rename_i h
        have := cntS_r (fun q => hI σ (47 + 4 * k + 3) q) 6
        exact nrm_ok (by show 1 ≤ cntS (fun q => hI σ (47 + 4 * k + 3) q) 6 * 100; have : cntS (fun q => hI σ (47 + 4 * k + 3) q) 6 ≠ 0 := h; omega)
    · exact nrm_ok (by decide)
/-- what 'markOf' answers -/
def moC (σ : am_HS) (k w : Nat) (q : Int) : Int := if q = 4 then hI σ (47 + 4 * k) 2 else if q = 3 then (if hI σ (47 + 4 * k) 2 = 0 then -9 else dayS (tkC σ k (ltC σ k (hI σ (37 + w) 0))) (hI σ (37 + w) 2) (hI σ (47 + 4 * k) 0)) else if q = 2 then (if hI σ (47 + 4 * k) 1 ≠ 0 then 0 else if 0 ≤ lmC σ k ∨ 0 < shC σ k then 1 else 2) else (if tgV (wvC σ k w) = 1 then (if q = 0 then upV (wvC σ k w) else dnV (wvC σ k w)) else q)
theorem cc6_markOf {D : Nat} (hD : 6 ≤ D) (σ : am_HS) {b : Nat} (hf : σ.2.2 = cH b) (hg : GC σ) (hb : rgC σ) (p w q : Int) : am_Do lc D mX6_markOf σ [vR (some 0), vI p, vI w, vI q] (qI fun z s => (¬ (0 ≤ p ∧ p < hI σ 0 7 ∧ 0 ≤ w ∧ w < hI σ 0 8) ∧ z = -1 ∧ s = uI σ 8 1 (hI σ 8 1 + 1)) ∨ ((0 ≤ p ∧ p < hI σ 0 7 ∧ 0 ≤ w ∧ w < hI σ 0 8) ∧ ¬ (0 ≤ q ∧ q < 5) ∧ z = -2 ∧ s = uI σ 8 2 (hI σ 8 2 + 1)) ∨ ((0 ≤ p ∧ p < hI σ 0 7 ∧ 0 ≤ w ∧ w < hI σ 0 8) ∧ (0 ≤ q ∧ q < 5) ∧ z = moC σ (10 * p.toNat + w.toNat) w.toNat q ∧ s = σ)) := by
  obtain ⟨hg1, hg2, hrf⟩ := id hg
  obtain ⟨d, rfl⟩ : ∃ d, D = d + 1 := ⟨D - 1, by omega⟩
  refine am_enter rfl rfl (Nat.le_of_ble_eq_true rfl) ?_
  refine g_aload_n dX6_markOf_0 rfl ?_
  refine g_iload_n dX6_markOf_1 rfl ?_
  refine g_callvR dX6_markOf_2 tm_6_67 rfl ⟨rfl, rfl⟩ rfl (Nat.le_of_ble_eq_true rfl) (cc6_workAt (by omega) σ hf _ (by omega)) (fun z2 s2 h2 => ?_)
  obtain ⟨h2, e2⟩ := h2
  obtain rfl := e2.symm
  refine g_astore dX6_markOf_5 (by decide) rfl ?_
  refine g_aload_n dX6_markOf_7 rfl ?_
  refine g_iload_n dX6_markOf_8 rfl ?_
  refine g_iload_n dX6_markOf_9 rfl ?_
  refine g_callvR dX6_markOf_10 tm_6_83 rfl ⟨rfl, rfl⟩ rfl (Nat.le_of_ble_eq_true rfl) (cc6_sheetOf (by omega) σ hf hg _ _) (fun z10 s10 h10 => ?_)
  obtain ⟨h10, e10⟩ := h10
  obtain rfl := e10.symm
  refine g_astore dX6_markOf_13 (by decide) rfl ?_
  refine g_aload dX6_markOf_15 rfl ?_
  refine g_ifnull (tgt := 25) dX6_markOf_17 (by decide) (fun c17 => ?_) (fun c17 => ?_)
  · have hno : ¬ (0 ≤ p ∧ p < hI σ 0 7 ∧ 0 ≤ w ∧ w < hI σ 0 8) := by
      rcases h2 with a | a
      · exact absurd (a.2.symm.trans c17) (by simp)
      · intro q; exact a.1 (by omega)
    refine g_aload_n dX6_markOf_25 rfl ?_
    refine g_iconst dX6_markOf_26 ⟨by decide, by decide⟩ ?_
    refine g_callvI dX6_markOf_27 tm_6_55 rfl ⟨rfl, rfl⟩ rfl (Nat.le_of_ble_eq_true rfl) (cc6_refuse (by omega) σ hf _ ⟨by omega, by omega⟩ hrf) (fun z27 s27 h27 => ?_)
    obtain ⟨rfl, rfl⟩ := h27
    refine g_ireturn dX6_markOf_30 (Or.inl rfl) ⟨_, rfl, ?_⟩
    first
      | exact Or.inl ⟨hno, rfl, rfl⟩
      | exact Or.inr (Or.inl ⟨hin, by omega, rfl, rfl⟩)
      | (refine Or.inr (Or.inr ⟨hin, by omega, ?_, rfl⟩)
         unfold moC
         first
           | (rw [if_pos (by omega)]; done)
           | (rw [if_neg (by omega), if_pos (by omega), if_pos (by omega)]; done)
           | (rw [if_neg (by omega), if_pos (by omega), if_neg (by omega)]; done)
           | (rw [if_neg (by omega), if_neg (by omega), if_pos (by omega), if_pos (by omega)]; done)
           | (rw [if_neg (by omega), if_neg (by omega), if_pos (by omega), if_neg (by omega), if_pos (by omega)]; done)
           | (rw [if_neg (by omega), if_neg (by omega), if_pos (by omega), if_neg (by omega), if_neg (by omega)]; done)
           | (rw [if_neg (show ¬ q = 4 by omega), if_neg (show ¬ q = 3 by omega), if_neg (show ¬ q = 2 by omega)]; done))
  · obtain ⟨hwi, rfl⟩ : (0 ≤ w ∧ w < hI σ 0 8) ∧ z2 = some (37 + w.toNat) := by
      rcases h2 with a | a
      · exact a
      · exact absurd a.2 c17
    clear h2
    refine g_aload dX6_markOf_20 rfl ?_
    refine g_ifnonnull (tgt := 31) dX6_markOf_22 (by decide) (fun c22 => ?_) (fun c22 => ?_)
    · have hno : ¬ (0 ≤ p ∧ p < hI σ 0 7 ∧ 0 ≤ w ∧ w < hI σ 0 8) := by
        rcases h10 with a | a
        · exact absurd (a.2.symm.trans c22) (by simp)
        · intro q; exact a.1 (by omega)
      refine g_aload_n dX6_markOf_25 rfl ?_
      refine g_iconst dX6_markOf_26 ⟨by decide, by decide⟩ ?_
      refine g_callvI dX6_markOf_27 tm_6_55 rfl ⟨rfl, rfl⟩ rfl (Nat.le_of_ble_eq_true rfl) (cc6_refuse (by omega) σ hf _ ⟨by omega, by omega⟩ hrf) (fun z27 s27 h27 => ?_)
      obtain ⟨rfl, rfl⟩ := h27
      refine g_ireturn dX6_markOf_30 (Or.inl rfl) ⟨_, rfl, ?_⟩
      first
        | exact Or.inl ⟨hno, rfl, rfl⟩
        | exact Or.inr (Or.inl ⟨hin, by omega, rfl, rfl⟩)
        | (refine Or.inr (Or.inr ⟨hin, by omega, ?_, rfl⟩)
           unfold moC
           first
             | (rw [if_pos (by omega)]; done)
             | (rw [if_neg (by omega), if_pos (by omega), if_pos (by omega)]; done)
             | (rw [if_neg (by omega), if_pos (by omega), if_neg (by omega)]; done)
             | (rw [if_neg (by omega), if_neg (by omega), if_pos (by omega), if_pos (by omega)]; done)
             | (rw [if_neg (by omega), if_neg (by omega), if_pos (by omega), if_neg (by omega), if_pos (by omega)]; done)
             | (rw [if_neg (by omega), if_neg (by omega), if_pos (by omega), if_neg (by omega), if_neg (by omega)]; done)
             | (rw [if_neg (show ¬ q = 4 by omega), if_neg (show ¬ q = 3 by omega), if_neg (show ¬ q = 2 by omega)]; done))
    · obtain ⟨hin, rfl⟩ : (0 ≤ p ∧ p < hI σ 0 7 ∧ 0 ≤ w ∧ w < hI σ 0 8) ∧ z10 = some (47 + 4 * (10 * p + w).toNat) := by
        rcases h10 with a | a
        · exact a
        · exact absurd a.2 c22
      clear h10
      obtain ⟨p, rfl⟩ : ∃ q : Nat, p = (q : Int) := ⟨p.toNat, by omega⟩
      obtain ⟨w, rfl⟩ : ∃ q : Nat, w = (q : Int) := ⟨w.toNat, by omega⟩
      have hp : p < 6 := by omega
      have hw : w < 10 := by omega
      have hs : 10 * p + w < 60 := by omega
      have ek : (10 * (p : Int) + (w : Int)).toNat = 10 * p + w := by omega
      simp only [Int.toNat_natCast]
      rw [ek]
      have hrk := hb.1 (10 * p + w) hs
      refine g_iload_n dX6_markOf_31 rfl ?_
      by_cases hq5 : q < 0 ∨ 4 < q
      · refine g_tsw_out (tgt := 143) dX6_markOf_32 (by omega) (by decide) ?_
        refine g_aload_n dX6_markOf_143 rfl ?_
        refine g_bipush dX6_markOf_144 (by decide) ?_
        refine g_callvI dX6_markOf_146 tm_6_55 rfl ⟨rfl, rfl⟩ rfl (Nat.le_of_ble_eq_true rfl) (cc6_refuse (by omega) σ hf _ ⟨by omega, by omega⟩ hrf) (fun z146 s146 h146 => ?_)
        obtain ⟨rfl, rfl⟩ := h146
        refine g_ireturn dX6_markOf_149 (Or.inl rfl) ⟨_, rfl, ?_⟩
        first
          | exact Or.inl ⟨hno, rfl, rfl⟩
          | exact Or.inr (Or.inl ⟨hin, by omega, rfl, rfl⟩)
          | (refine Or.inr (Or.inr ⟨hin, by omega, ?_, rfl⟩)
             unfold moC
             first
               | (rw [if_pos (by omega)]; done)
               | (rw [if_neg (by omega), if_pos (by omega), if_pos (by omega)]; done)
               | (rw [if_neg (by omega), if_pos (by omega), if_neg (by omega)]; done)
               | (rw [if_neg (by omega), if_neg (by omega), if_pos (by omega), if_pos (by omega)]; done)
               | (rw [if_neg (by omega), if_neg (by omega), if_pos (by omega), if_neg (by omega), if_pos (by omega)]; done)
               | (rw [if_neg (by omega), if_neg (by omega), if_pos (by omega), if_neg (by omega), if_neg (by omega)]; done)
               | (rw [if_neg (show ¬ q = 4 by omega), if_neg (show ¬ q = 3 by omega), if_neg (show ¬ q = 2 by omega)]; done))
      · rcases (show q = 0 ∨ q = 1 ∨ q = 2 ∨ q = 3 ∨ q = 4 by omega) with ho | ho | ho | ho | ho
        · refine g_tsw_in (tgt := 68) (off := 36) dX6_markOf_32 (by omega) (by rw [ho]; rfl) (by decide) ?_
          refine g_aload dX6_markOf_68 rfl ?_
          refine g_aload dX6_markOf_70 rfl ?_
          refine g_callvL dX6_markOf_72 tm_6_209 rfl ⟨rfl, rfl⟩ (lc_s hs) (Nat.le_of_ble_eq_true rfl) (cc3_worth (by omega) σ hf hs hb hw) (fun z72 s72 h72 => ?_)
          obtain ⟨rfl, e72⟩ := h72
          obtain rfl := e72.symm
          refine g_iload_n dX6_markOf_75 rfl ?_
          refine g_callsI dX6_markOf_76 tm_6_213 rfl ⟨Nat.le_of_ble_eq_true rfl, rfl, rfl⟩ (Nat.le_of_ble_eq_true rfl) (cc6_part (by omega) σ (wvC_ok σ (10 * p + w) w) _ q rfl (by omega)) (fun z76 s76 h76 => ?_)
          obtain ⟨rfl, e76⟩ := h76
          obtain rfl := e76.symm
          refine g_ireturn dX6_markOf_79 (Or.inl rfl) ⟨_, rfl, ?_⟩
          first
            | exact Or.inl ⟨hno, rfl, rfl⟩
            | exact Or.inr (Or.inl ⟨hin, by omega, rfl, rfl⟩)
            | (refine Or.inr (Or.inr ⟨hin, by omega, ?_, rfl⟩)
               unfold moC
               first
                 | (rw [if_pos (by omega)]; done)
                 | (rw [if_neg (by omega), if_pos (by omega), if_pos (by omega)]; done)
                 | (rw [if_neg (by omega), if_pos (by omega), if_neg (by omega)]; done)
                 | (rw [if_neg (by omega), if_neg (by omega), if_pos (by omega), if_pos (by omega)]; done)
                 | (rw [if_neg (by omega), if_neg (by omega), if_pos (by omega), if_neg (by omega), if_pos (by omega)]; done)
                 | (rw [if_neg (by omega), if_neg (by omega), if_pos (by omega), if_neg (by omega), if_neg (by omega)]; done)
                 | (rw [if_neg (show ¬ q = 4 by omega), if_neg (show ¬ q = 3 by omega), if_neg (show ¬ q = 2 by omega)]; done))
        · refine g_tsw_in (tgt := 68) (off := 36) dX6_markOf_32 (by omega) (by rw [ho]; rfl) (by decide) ?_
          refine g_aload dX6_markOf_68 rfl ?_
          refine g_aload dX6_markOf_70 rfl ?_
          refine g_callvL dX6_markOf_72 tm_6_209 rfl ⟨rfl, rfl⟩ (lc_s hs) (Nat.le_of_ble_eq_true rfl) (cc3_worth (by omega) σ hf hs hb hw) (fun z72 s72 h72 => ?_)
          obtain ⟨rfl, e72⟩ := h72
          obtain rfl := e72.symm
          refine g_iload_n dX6_markOf_75 rfl ?_
          refine g_callsI dX6_markOf_76 tm_6_213 rfl ⟨Nat.le_of_ble_eq_true rfl, rfl, rfl⟩ (Nat.le_of_ble_eq_true rfl) (cc6_part (by omega) σ (wvC_ok σ (10 * p + w) w) _ q rfl (by omega)) (fun z76 s76 h76 => ?_)
          obtain ⟨rfl, e76⟩ := h76
          obtain rfl := e76.symm
          refine g_ireturn dX6_markOf_79 (Or.inl rfl) ⟨_, rfl, ?_⟩
          first
            | exact Or.inl ⟨hno, rfl, rfl⟩
            | exact Or.inr (Or.inl ⟨hin, by omega, rfl, rfl⟩)
            | (refine Or.inr (Or.inr ⟨hin, by omega, ?_, rfl⟩)
               unfold moC
               first
                 | (rw [if_pos (by omega)]; done)
                 | (rw [if_neg (by omega), if_pos (by omega), if_pos (by omega)]; done)
                 | (rw [if_neg (by omega), if_pos (by omega), if_neg (by omega)]; done)
                 | (rw [if_neg (by omega), if_neg (by omega), if_pos (by omega), if_pos (by omega)]; done)
                 | (rw [if_neg (by omega), if_neg (by omega), if_pos (by omega), if_neg (by omega), if_pos (by omega)]; done)
                 | (rw [if_neg (by omega), if_neg (by omega), if_pos (by omega), if_neg (by omega), if_neg (by omega)]; done)
                 | (rw [if_neg (show ¬ q = 4 by omega), if_neg (show ¬ q = 3 by omega), if_neg (show ¬ q = 2 by omega)]; done))
        · refine g_tsw_in (tgt := 80) (off := 48) dX6_markOf_32 (by omega) (by rw [ho]; rfl) (by decide) ?_
          refine g_aload dX6_markOf_80 rfl ?_
          refine g_getZ dX6_markOf_82 tf_6_90 (lc_s hs) rfl ?_
          refine g_if_eq (tgt := 92) dX6_markOf_85 (by decide) (fun c85 => ?_) (fun c85 => ?_)
          · refine g_aload dX6_markOf_92 rfl ?_
            refine g_callvI dX6_markOf_94 tm_6_217 rfl ⟨rfl, rfl⟩ (lc_s hs) (Nat.le_of_ble_eq_true rfl) (cc3_isMarked (by omega) σ hf hs) (fun z94 s94 h94 => ?_)
            obtain ⟨h94, e94⟩ := h94
            obtain rfl := e94.symm
            refine g_if_eq (tgt := 104) dX6_markOf_97 (by decide) (fun c97 => ?_) (fun c97 => ?_)
            · refine g_iconst dX6_markOf_104 ⟨by decide, by decide⟩ ?_
              refine g_ireturn dX6_markOf_105 (Or.inl rfl) ⟨_, rfl, ?_⟩
              first
                | exact Or.inl ⟨hno, rfl, rfl⟩
                | exact Or.inr (Or.inl ⟨hin, by omega, rfl, rfl⟩)
                | (refine Or.inr (Or.inr ⟨hin, by omega, ?_, rfl⟩)
                   unfold moC
                   first
                     | (rw [if_pos (by omega)]; done)
                     | (rw [if_neg (by omega), if_pos (by omega), if_pos (by omega)]; done)
                     | (rw [if_neg (by omega), if_pos (by omega), if_neg (by omega)]; done)
                     | (rw [if_neg (by omega), if_neg (by omega), if_pos (by omega), if_pos (by omega)]; done)
                     | (rw [if_neg (by omega), if_neg (by omega), if_pos (by omega), if_neg (by omega), if_pos (by omega)]; done)
                     | (rw [if_neg (by omega), if_neg (by omega), if_pos (by omega), if_neg (by omega), if_neg (by omega)]; done)
                     | (rw [if_neg (show ¬ q = 4 by omega), if_neg (show ¬ q = 3 by omega), if_neg (show ¬ q = 2 by omega)]; done))
            · refine g_iconst dX6_markOf_100 ⟨by decide, by decide⟩ ?_
              refine g_goto (tgt := 105) dX6_markOf_101 (by decide) ?_
              refine g_ireturn dX6_markOf_105 (Or.inl rfl) ⟨_, rfl, ?_⟩
              first
                | exact Or.inl ⟨hno, rfl, rfl⟩
                | exact Or.inr (Or.inl ⟨hin, by omega, rfl, rfl⟩)
                | (refine Or.inr (Or.inr ⟨hin, by omega, ?_, rfl⟩)
                   unfold moC
                   first
                     | (rw [if_pos (by omega)]; done)
                     | (rw [if_neg (by omega), if_pos (by omega), if_pos (by omega)]; done)
                     | (rw [if_neg (by omega), if_pos (by omega), if_neg (by omega)]; done)
                     | (rw [if_neg (by omega), if_neg (by omega), if_pos (by omega), if_pos (by omega)]; done)
                     | (rw [if_neg (by omega), if_neg (by omega), if_pos (by omega), if_neg (by omega), if_pos (by omega)]; done)
                     | (rw [if_neg (by omega), if_neg (by omega), if_pos (by omega), if_neg (by omega), if_neg (by omega)]; done)
                     | (rw [if_neg (show ¬ q = 4 by omega), if_neg (show ¬ q = 3 by omega), if_neg (show ¬ q = 2 by omega)]; done))
          · refine g_iconst dX6_markOf_88 ⟨by decide, by decide⟩ ?_
            refine g_goto (tgt := 105) dX6_markOf_89 (by decide) ?_
            refine g_ireturn dX6_markOf_105 (Or.inl rfl) ⟨_, rfl, ?_⟩
            first
              | exact Or.inl ⟨hno, rfl, rfl⟩
              | exact Or.inr (Or.inl ⟨hin, by omega, rfl, rfl⟩)
              | (refine Or.inr (Or.inr ⟨hin, by omega, ?_, rfl⟩)
                 unfold moC
                 first
                   | (rw [if_pos (by omega)]; done)
                   | (rw [if_neg (by omega), if_pos (by omega), if_pos (by omega)]; done)
                   | (rw [if_neg (by omega), if_pos (by omega), if_neg (by omega)]; done)
                   | (rw [if_neg (by omega), if_neg (by omega), if_pos (by omega), if_pos (by omega)]; done)
                   | (rw [if_neg (by omega), if_neg (by omega), if_pos (by omega), if_neg (by omega), if_pos (by omega)]; done)
                   | (rw [if_neg (by omega), if_neg (by omega), if_pos (by omega), if_neg (by omega), if_neg (by omega)]; done)
                   | (rw [if_neg (show ¬ q = 4 by omega), if_neg (show ¬ q = 3 by omega), if_neg (show ¬ q = 2 by omega)]; done))
        · refine g_tsw_in (tgt := 106) (off := 74) dX6_markOf_32 (by omega) (by rw [ho]; rfl) (by decide) ?_
          refine g_aload dX6_markOf_106 rfl ?_
          refine g_getI dX6_markOf_108 tf_6_186 (lc_s hs) rfl ?_
          refine g_if_ne (tgt := 119) dX6_markOf_111 (by decide) (fun c111 => ?_) (fun c111 => ?_)
          · refine g_aload dX6_markOf_119 rfl ?_
            refine g_aload dX6_markOf_121 rfl ?_
            refine g_aload dX6_markOf_123 rfl ?_
            refine g_aload dX6_markOf_125 rfl ?_
            refine g_getI dX6_markOf_127 tf_6_71 (lc_w hw) rfl ?_
            refine g_callvI dX6_markOf_130 tm_6_177 rfl ⟨rfl, rfl⟩ (lc_s hs) (Nat.le_of_ble_eq_true rfl) (cc3_latest (by omega) σ hf hs _ hrk.2.2.1) (fun z130 s130 h130 => ?_)
            obtain ⟨rfl, e130⟩ := h130
            obtain rfl := e130.symm
            refine g_callvI dX6_markOf_133 tm_6_221 rfl ⟨rfl, rfl⟩ (lc_s hs) (Nat.le_of_ble_eq_true rfl) (cc3_days (by omega) σ hf hs hb hw _) (fun z133 s133 h133 => ?_)
            obtain ⟨rfl, e133⟩ := h133
            obtain rfl := e133.symm
            refine g_ireturn dX6_markOf_136 (Or.inl rfl) ⟨_, rfl, ?_⟩
            first
              | exact Or.inl ⟨hno, rfl, rfl⟩
              | exact Or.inr (Or.inl ⟨hin, by omega, rfl, rfl⟩)
              | (refine Or.inr (Or.inr ⟨hin, by omega, ?_, rfl⟩)
                 unfold moC
                 first
                   | (rw [if_pos (by omega)]; done)
                   | (rw [if_neg (by omega), if_pos (by omega), if_pos (by omega)]; done)
                   | (rw [if_neg (by omega), if_pos (by omega), if_neg (by omega)]; done)
                   | (rw [if_neg (by omega), if_neg (by omega), if_pos (by omega), if_pos (by omega)]; done)
                   | (rw [if_neg (by omega), if_neg (by omega), if_pos (by omega), if_neg (by omega), if_pos (by omega)]; done)
                   | (rw [if_neg (by omega), if_neg (by omega), if_pos (by omega), if_neg (by omega), if_neg (by omega)]; done)
                   | (rw [if_neg (show ¬ q = 4 by omega), if_neg (show ¬ q = 3 by omega), if_neg (show ¬ q = 2 by omega)]; done))
          · refine g_bipush dX6_markOf_114 (by decide) ?_
            refine g_goto (tgt := 136) dX6_markOf_116 (by decide) ?_
            refine g_ireturn dX6_markOf_136 (Or.inl rfl) ⟨_, rfl, ?_⟩
            first
              | exact Or.inl ⟨hno, rfl, rfl⟩
              | exact Or.inr (Or.inl ⟨hin, by omega, rfl, rfl⟩)
              | (refine Or.inr (Or.inr ⟨hin, by omega, ?_, rfl⟩)
                 unfold moC
                 first
                   | (rw [if_pos (by omega)]; done)
                   | (rw [if_neg (by omega), if_pos (by omega), if_pos (by omega)]; done)
                   | (rw [if_neg (by omega), if_pos (by omega), if_neg (by omega)]; done)
                   | (rw [if_neg (by omega), if_neg (by omega), if_pos (by omega), if_pos (by omega)]; done)
                   | (rw [if_neg (by omega), if_neg (by omega), if_pos (by omega), if_neg (by omega), if_pos (by omega)]; done)
                   | (rw [if_neg (by omega), if_neg (by omega), if_pos (by omega), if_neg (by omega), if_neg (by omega)]; done)
                   | (rw [if_neg (show ¬ q = 4 by omega), if_neg (show ¬ q = 3 by omega), if_neg (show ¬ q = 2 by omega)]; done))
        · refine g_tsw_in (tgt := 137) (off := 105) dX6_markOf_32 (by omega) (by rw [ho]; rfl) (by decide) ?_
          refine g_aload dX6_markOf_137 rfl ?_
          refine g_getI dX6_markOf_139 tf_6_186 (lc_s hs) rfl ?_
          refine g_ireturn dX6_markOf_142 (Or.inl rfl) ⟨_, rfl, ?_⟩
          first
            | exact Or.inl ⟨hno, rfl, rfl⟩
            | exact Or.inr (Or.inl ⟨hin, by omega, rfl, rfl⟩)
            | (refine Or.inr (Or.inr ⟨hin, by omega, ?_, rfl⟩)
               unfold moC
               first
                 | (rw [if_pos (by omega)]; done)
                 | (rw [if_neg (by omega), if_pos (by omega), if_pos (by omega)]; done)
                 | (rw [if_neg (by omega), if_pos (by omega), if_neg (by omega)]; done)
                 | (rw [if_neg (by omega), if_neg (by omega), if_pos (by omega), if_pos (by omega)]; done)
                 | (rw [if_neg (by omega), if_neg (by omega), if_pos (by omega), if_neg (by omega), if_pos (by omega)]; done)
                 | (rw [if_neg (by omega), if_neg (by omega), if_pos (by omega), if_neg (by omega), if_neg (by omega)]; done)
                 | (rw [if_neg (show ¬ q = 4 by omega), if_neg (show ¬ q = 3 by omega), if_neg (show ¬ q = 2 by omega)]; done))

