/-! THE CLASS: a value in least terms -/
theorem eu_half {A B : Nat} (h1 : 0 < A) (h : 0 < B % A) : 2 * (A % (B % A)) < A := by
  have h2 := Nat.mod_lt B h1
  generalize B % A = r at *
  rcases Nat.lt_or_ge A (2 * r) with q | q
  · have : A % r = A - r := by
      rw [Nat.mod_eq_sub_mod (by omega), Nat.mod_eq_of_lt (by omega)]
    omega
  · have := Nat.mod_lt A h
    omega
theorem cc4_ofE {d : Nat} (σ : am_HS) (a b : Int) (hb : 1 ≤ b) (U W : Int) (hU : U = a / (Int.gcd a b : Int)) (hW : W = b / (Int.gcd a b : Int)) (ru : rL U) (rw_ : 1 ≤ W ∧ rL W) (l : am_LV) (h0 : lvg l 0 = some (vL U)) (h2 : lvg l 2 = some (vL W)) : am_Go lc d 4 11 3 cX4_of 89 l [] σ (qL fun z s => z = encV (nrm a b) ∧ s = σ) := by
  obtain ⟨u1, u2⟩ := ru
  obtain ⟨w1, w2, w3⟩ := rw_
  refine g_lload_n dX4_of_89 h0 ?_
  refine g_ldc2 dX4_of_90 tj_4_13 ⟨by decide, by decide⟩ ?_
  refine g_lc_lt (tgt := 113) dX4_of_93 dX4_of_94 (by decide) (fun c94 => ?_) (fun c94 => ?_)
  · refine g_ldc2 dX4_of_113 tj_4_11 ⟨by decide, by decide⟩ ?_
    refine g_lreturn dX4_of_116 rfl ⟨_, rfl, ?_⟩
    refine ⟨?_, rfl⟩
    unfold nrm
    rw [← hU, ← hW]
    first
      | (rw [if_pos (by omega)]; rfl)
      | (rw [if_neg (by omega)]; rfl)
  · refine g_lload_n dX4_of_97 h0 ?_
    refine g_ldc2 dX4_of_98 tj_4_15 ⟨by decide, by decide⟩ ?_
    refine g_lc_gt (tgt := 113) dX4_of_101 dX4_of_102 (by decide) (fun c102 => ?_) (fun c102 => ?_)
    · refine g_ldc2 dX4_of_113 tj_4_11 ⟨by decide, by decide⟩ ?_
      refine g_lreturn dX4_of_116 rfl ⟨_, rfl, ?_⟩
      refine ⟨?_, rfl⟩
      unfold nrm
      rw [← hU, ← hW]
      first
        | (rw [if_pos (by omega)]; rfl)
        | (rw [if_neg (by omega)]; rfl)
    · refine g_lload_n dX4_of_105 h2 ?_
      refine g_ldc2 dX4_of_106 tj_4_15 ⟨by decide, by decide⟩ ?_
      refine g_lc_le (tgt := 117) dX4_of_109 dX4_of_110 (by decide) (fun c110 => ?_) (fun c110 => ?_)
      · refine g_lload_n dX4_of_117 h0 ?_
        refine g_bipush dX4_of_118 (by decide) ?_
        refine g_lshl dX4_of_120 (lx_shl ⟨by omega, by omega⟩) ?_
        refine g_lload_n dX4_of_121 h2 ?_
        refine g_lor dX4_of_122 (lx_or ⟨by omega, by omega⟩ ⟨by omega, by omega⟩) ?_
        refine g_lreturn dX4_of_123 rfl ⟨_, rfl, ?_⟩
        refine ⟨?_, rfl⟩
        unfold nrm
        rw [← hU, ← hW]
        first
          | (rw [if_pos (by omega)]; rfl)
          | (rw [if_neg (by omega)]; rfl)
      · refine g_ldc2 dX4_of_113 tj_4_11 ⟨by decide, by decide⟩ ?_
        refine g_lreturn dX4_of_116 rfl ⟨_, rfl, ?_⟩
        refine ⟨?_, rfl⟩
        unfold nrm
        rw [← hU, ← hW]
        first
          | (rw [if_pos (by omega)]; rfl)
          | (rw [if_neg (by omega)]; rfl)
theorem cc4_ofL {d : Nat} (σ : am_HS) (a b : Int) (G : Nat) (Q : Option am_V → am_HS → Prop) (hk : ∀ (A : Int) (i : Int) (o9 o10 : Option am_V), am_Go lc d 4 11 3 cX4_of 72 [some (vL a), none, some (vL b), none, some (vL A), none, some (vL (G : Int)), none, some (vI i), o9, o10] [] σ Q) : ∀ (t A B i : Nat) (o9 o10 : Option am_V), A < 2 ^ t → B < 9000000000000000000 → t ≤ 62 → i + 2 * t ≤ 126 → Nat.gcd A B = G → am_Go lc d 4 11 3 cX4_of 36 [some (vL a), none, some (vL b), none, some (vL (A : Int)), none, some (vL (B : Int)), none, some (vI (i : Int)), o9, o10] [] σ Q := by
  have stop : ∀ (B i : Nat) (o9 o10 : Option am_V), i ≤ 127 → B = G → am_Go lc d 4 11 3 cX4_of 36 [some (vL a), none, some (vL b), none, some (vL 0), none, some (vL (B : Int)), none, some (vI (i : Int)), o9, o10] [] σ Q := by
    intro B i o9 o10 hi hB
    subst hB
    refine g_iload dX4_of_36 rfl ?_
    refine g_sipush dX4_of_38 (by decide) ?_
    refine g_icmp_ge (tgt := 72) dX4_of_41 (by decide) (fun c41 => ?_) (fun c41 => ?_)
    · exfalso; omega
    · refine g_lload dX4_of_44 rfl ?_
      refine g_lconst0 dX4_of_46 ?_
      refine g_lc_eq (tgt := 72) dX4_of_47 dX4_of_48 (by decide) (fun c48 => ?_) (fun c48 => ?_)
      · exact hk _ _ _ _
      · exfalso; omega
  have step : ∀ (A B i : Nat) (o9 o10 : Option am_V), 0 < A → i ≤ 126 → A < 9000000000000000000 → B < 9000000000000000000 → (∀ o9 o10, am_Go lc d 4 11 3 cX4_of 36 [some (vL a), none, some (vL b), none, some (vL ((B % A : Nat) : Int)), none, some (vL (A : Int)), none, some (vI ((i + 1 : Nat) : Int)), o9, o10] [] σ Q) → am_Go lc d 4 11 3 cX4_of 36 [some (vL a), none, some (vL b), none, some (vL (A : Int)), none, some (vL (B : Int)), none, some (vI (i : Int)), o9, o10] [] σ Q := by
    intro A B i o9 o10 hA hi h1 h2 hn
    have hm := Nat.mod_lt B hA
    refine g_iload dX4_of_36 rfl ?_
    refine g_sipush dX4_of_38 (by decide) ?_
    refine g_icmp_ge (tgt := 72) dX4_of_41 (by decide) (fun c41 => ?_) (fun c41 => ?_)
    · exfalso; omega
    · refine g_lload dX4_of_44 rfl ?_
      refine g_lconst0 dX4_of_46 ?_
      refine g_lc_eq (tgt := 72) dX4_of_47 dX4_of_48 (by decide) (fun c48 => ?_) (fun c48 => ?_)
      · exfalso; omega
      · refine g_lload dX4_of_51 rfl ?_
        refine g_lload dX4_of_53 rfl ?_
        refine g_lrem dX4_of_55 (by omega) (show (B : Int).tmod (A : Int) = ((B % A : Nat) : Int) from (Int.ofNat_tmod B A).symm) ⟨by omega, by omega⟩ ?_
        refine g_lstore dX4_of_56 (by decide) rfl ?_
        refine g_lload dX4_of_58 rfl ?_
        refine g_lstore dX4_of_60 (by decide) rfl ?_
        refine g_lload dX4_of_62 rfl ?_
        refine g_lstore dX4_of_64 (by decide) rfl ?_
        refine g_iinc dX4_of_66 (by decide) rfl ⟨by omega, by omega⟩ (show (i : Int) + 1 = ((i + 1 : Nat) : Int) from by omega) rfl ?_
        refine g_goto (tgt := 36) dX4_of_69 (by decide) ?_
        exact hn _ _
  intro t
  induction t with
  | zero =>
    intro A B i o9 o10 hA hB ht hi hg
    have hA0 : A = 0 := by simpa using hA
    subst hA0
    exact stop B i o9 o10 (by omega) (by rw [← hg]; simp)
  | succ t ih =>
    intro A B i o9 o10 hA hB ht hi hg
    have hp := Nat.pow_le_pow_right (n := 2) (by decide) ht
    have hpv : (2 : Nat) ^ 62 = 4611686018427387904 := by decide
    rcases Nat.eq_zero_or_pos A with q | q
    · subst q
      exact stop B i o9 o10 (by omega) (by rw [← hg]; simp)
    · refine step A B i _ _ q (by omega) (by omega) hB (fun o9 o10 => ?_)
      have hm := Nat.mod_lt B q
      have hg2 : Nat.gcd (B % A) A = G := by rw [← hg]; exact (Nat.gcd_rec A B).symm
      rcases Nat.eq_zero_or_pos (B % A) with q2 | q2
      · rw [q2]
        rw [q2] at hg2
        exact stop A (i + 1) o9 o10 (by omega) (by rw [← hg2]; simp)
      · refine step (B % A) A (i + 1) _ _ q2 (by omega) (by omega) (by omega) (fun o9 o10 => ?_)
        have hh := eu_half q q2
        refine ih _ _ (i + 1 + 1) _ _ ?_ (by omega) (by omega) (by omega) ?_
        · have : (2 : Nat) ^ (t + 1) = 2 * 2 ^ t := by rw [Nat.pow_succ]; omega
          omega
        · rw [← hg2]; exact (Nat.gcd_rec (B % A) A).symm
theorem cc4_of {D : Nat} (hD : 1 ≤ D) (σ : am_HS) (a b : Int) (ha : -4000000000000000000 ≤ a ∧ a ≤ 4000000000000000000) (hb : 1 ≤ b ∧ b ≤ 4000000000000000000) : am_Do lc D mX4_of σ [vL a, vL b] (qL fun z s => z = encV (nrm a b) ∧ s = σ) := by
  obtain ⟨d, rfl⟩ : ∃ d, D = d + 1 := ⟨D - 1, by omega⟩
  refine am_enter rfl rfl (Nat.le_of_ble_eq_true rfl) ?_
  have p62 : (2 : Nat) ^ 62 = 4611686018427387904 := by decide
  have hg := gcd_pos (a := a) hb.1
  have d1 : (Int.gcd a b : Int) ∣ a := Int.gcd_dvd_left ..
  have d2 : (Int.gcd a b : Int) ∣ b := Int.gcd_dvd_right ..
  have w1 : 1 ≤ b / (Int.gcd a b : Int) := by
    have := Int.ediv_pos_of_pos_of_dvd (by omega : 0 < b) (by omega) d2
    omega
  have w2 : b / (Int.gcd a b : Int) ≤ b := Int.ediv_le_self _ (by omega)
  have u1 : -4000000000000000000 ≤ a / (Int.gcd a b : Int) ∧ a / (Int.gcd a b : Int) ≤ 4000000000000000000 := by
    obtain ⟨q, hq⟩ := d1
    have e : a / (Int.gcd a b : Int) = q := by
      conv => lhs; lhs; rw [hq]
      exact Int.mul_ediv_cancel_left q (by omega)
    rw [e]
    generalize (Int.gcd a b : Int) = g at *
    rw [hq] at ha
    rcases Int.le_total 0 q with h | h
    · have := Int.mul_le_mul_of_nonneg_right (show (1 : Int) ≤ g by omega) h
      omega
    · have := Int.mul_le_mul_of_nonpos_right (show (1 : Int) ≤ g by omega) h
      omega
  have fin : ∀ (l : am_LV), lvg l 0 = some (vL (a / (Int.gcd a b : Int))) → lvg l 2 = some (vL (b / (Int.gcd a b : Int))) → am_Go lc d 4 11 3 cX4_of 89 l [] σ (qL fun z s => z = encV (nrm a b) ∧ s = σ) := fun l h0 h2 => cc4_ofE σ a b hb.1 _ _ rfl rfl ⟨by omega, by omega⟩ ⟨by omega, by omega, by omega⟩ l h0 h2
  refine g_lload_n dX4_of_0 rfl ?_
  refine g_lconst0 dX4_of_1 ?_
  refine g_lc_gt (tgt := 10) dX4_of_2 dX4_of_3 (by decide) (fun c3 => ?_) (fun c3 => ?_)
  · refine g_lload_n dX4_of_10 rfl ?_
    refine g_lconst1 dX4_of_11 ?_
    refine g_lc_eq (tgt := 89) dX4_of_12 dX4_of_13 (by decide) (fun c13 => ?_) (fun c13 => ?_)
    · have hg1 : (Int.gcd a b : Int) = 1 := by
        have : b = 1 := by omega
        rw [this]
        have : Int.gcd a 1 = 1 := by simp
        omega
      rw [hg1, Int.ediv_one, Int.ediv_one] at fin
      exact fin _ rfl rfl
    · refine g_lload_n dX4_of_16 rfl ?_
      refine g_lconst0 dX4_of_17 ?_
      refine g_lc_ge (tgt := 27) dX4_of_18 dX4_of_19 (by decide) (fun c19 => ?_) (fun c19 => ?_)
      · refine g_lload_n dX4_of_27 rfl ?_
        refine g_lstore dX4_of_28 (by decide) rfl ?_
        refine g_lload_n dX4_of_30 rfl ?_
        refine g_lstore dX4_of_31 (by decide) rfl ?_
        refine g_iconst dX4_of_33 ⟨by decide, by decide⟩ ?_
        refine g_istore dX4_of_34 (by decide) rfl ?_
        have hrun : ∀ o9 o10, am_Go lc d 4 11 3 cX4_of 36 [some (vL a), none, some (vL b), none, some (vL (a.natAbs : Int)), none, some (vL (b.natAbs : Int)), none, some (vI ((0 : Nat) : Int)), o9, o10] [] σ (qL fun z s => z = encV (nrm a b) ∧ s = σ) := by
          intro o9 o10
          refine cc4_ofL σ a b (Int.gcd a b) _ (fun A i o9 o10 => ?_) 62 a.natAbs b.natAbs 0 o9 o10 (by omega) (by omega) (by omega) (by omega) rfl
        
          refine g_lload dX4_of_72 rfl ?_
          refine g_lconst1 dX4_of_74 ?_
          refine g_lc_le (tgt := 89) dX4_of_75 dX4_of_76 (by decide) (fun c76 => ?_) (fun c76 => ?_)
          · first
              | exact fin _ rfl rfl
              | (have hg1 : (Int.gcd a b : Int) = 1 := by omega
                 have fin2 := fin
                 rw [hg1, Int.ediv_one, Int.ediv_one] at fin2
                 exact fin2 _ rfl rfl)
          · refine g_lload_n dX4_of_79 rfl ?_
            refine g_lload dX4_of_80 rfl ?_
            refine g_ldiv dX4_of_82 (by omega) (Int.tdiv_eq_ediv_of_dvd d1) ⟨by omega, by omega⟩ ?_
            refine g_lstore_n dX4_of_83 (by decide) rfl ?_
            refine g_lload_n dX4_of_84 rfl ?_
            refine g_lload dX4_of_85 rfl ?_
            refine g_ldiv dX4_of_87 (by omega) (Int.tdiv_eq_ediv_of_dvd d2) ⟨by omega, by omega⟩ ?_
            refine g_lstore_n dX4_of_88 (by decide) rfl ?_
            first
              | exact fin _ rfl rfl
              | (have hg1 : (Int.gcd a b : Int) = 1 := by omega
                 have fin2 := fin
                 rw [hg1, Int.ediv_one, Int.ediv_one] at fin2
                 exact fin2 _ rfl rfl)
        rw [show ((b.natAbs : Nat) : Int) = b by omega] at hrun
        first
          | (rw [show ((a.natAbs : Nat) : Int) = a by omega] at hrun; exact hrun _ _)
          | (rw [show ((a.natAbs : Nat) : Int) = -a by omega] at hrun; exact hrun _ _)
      · refine g_lload_n dX4_of_22 rfl ?_
        refine g_lneg dX4_of_23 rfl ⟨by omega, by omega⟩ ?_
        refine g_goto (tgt := 28) dX4_of_24 (by decide) ?_
        refine g_lstore dX4_of_28 (by decide) rfl ?_
        refine g_lload_n dX4_of_30 rfl ?_
        refine g_lstore dX4_of_31 (by decide) rfl ?_
        refine g_iconst dX4_of_33 ⟨by decide, by decide⟩ ?_
        refine g_istore dX4_of_34 (by decide) rfl ?_
        have hrun : ∀ o9 o10, am_Go lc d 4 11 3 cX4_of 36 [some (vL a), none, some (vL b), none, some (vL (a.natAbs : Int)), none, some (vL (b.natAbs : Int)), none, some (vI ((0 : Nat) : Int)), o9, o10] [] σ (qL fun z s => z = encV (nrm a b) ∧ s = σ) := by
          intro o9 o10
          refine cc4_ofL σ a b (Int.gcd a b) _ (fun A i o9 o10 => ?_) 62 a.natAbs b.natAbs 0 o9 o10 (by omega) (by omega) (by omega) (by omega) rfl
        
          refine g_lload dX4_of_72 rfl ?_
          refine g_lconst1 dX4_of_74 ?_
          refine g_lc_le (tgt := 89) dX4_of_75 dX4_of_76 (by decide) (fun c76 => ?_) (fun c76 => ?_)
          · first
              | exact fin _ rfl rfl
              | (have hg1 : (Int.gcd a b : Int) = 1 := by omega
                 have fin2 := fin
                 rw [hg1, Int.ediv_one, Int.ediv_one] at fin2
                 exact fin2 _ rfl rfl)
          · refine g_lload_n dX4_of_79 rfl ?_
            refine g_lload dX4_of_80 rfl ?_
            refine g_ldiv dX4_of_82 (by omega) (Int.tdiv_eq_ediv_of_dvd d1) ⟨by omega, by omega⟩ ?_
            refine g_lstore_n dX4_of_83 (by decide) rfl ?_
            refine g_lload_n dX4_of_84 rfl ?_
            refine g_lload dX4_of_85 rfl ?_
            refine g_ldiv dX4_of_87 (by omega) (Int.tdiv_eq_ediv_of_dvd d2) ⟨by omega, by omega⟩ ?_
            refine g_lstore_n dX4_of_88 (by decide) rfl ?_
            first
              | exact fin _ rfl rfl
              | (have hg1 : (Int.gcd a b : Int) = 1 := by omega
                 have fin2 := fin
                 rw [hg1, Int.ediv_one, Int.ediv_one] at fin2
                 exact fin2 _ rfl rfl)
        rw [show ((b.natAbs : Nat) : Int) = b by omega] at hrun
        first
          | (rw [show ((a.natAbs : Nat) : Int) = a by omega] at hrun; exact hrun _ _)
          | (rw [show ((a.natAbs : Nat) : Int) = -a by omega] at hrun; exact hrun _ _)
  · exfalso; omega
