/-! THE CLASS: opens, value, hangs, need, hand -/
theorem tag_n {v : Vl} {x : Int} (hv : vok v) (hx : x = encV v) : (x % 4294967296 ≠ 0 → tgV v = 1) ∧ (x % 4294967296 = 0 → x = 4294967296 → tgV v = 2) ∧ (x % 4294967296 = 0 → x ≠ 4294967296 → tgV v = 0) := by
  refine ⟨fun h => ?_, fun h h2 => ?_, fun h h2 => ?_⟩
  · obtain ⟨u, d, e, _⟩ := enc_n hv hx h
    rw [e]
    rfl
  · rw [enc_X hv hx h2]
    rfl
  · rcases enc_nn hv hx h with e | e
    · rw [e]; rfl
    · rw [e] at hx
      exact absurd hx h2
theorem cc6_opens {D : Nat} (hD : 10 ≤ D) (σ : am_HS) {b n : Nat} {nm : Nat → Int} {ev : Nat → Den} {ed : Nat → Nat → Prop} {ls : Prop} {W P : Nat} (hG : CG σ b n nm ev ed ls W P) {mk : Nat → Nat → Vl} (hm : ∀ p, p < P → mkOK σ W p (mk p)) (p w : Int) : am_Do lc D mX6_opens σ [vR (some 0), vI p, vI w] (qI fun z s => (¬ (0 ≤ p ∧ p < hI σ 0 7 ∧ 0 ≤ w ∧ w < hI σ 0 8) ∧ z = -1 ∧ s = uI σ 8 1 (hI σ 8 1 + 1)) ∨ ((0 ≤ p ∧ p < hI σ 0 7 ∧ 0 ≤ w ∧ w < hI σ 0 8) ∧ (z = 1 ∧ opC_ σ n (rvC n ev (mk p.toNat)) w.toNat ∨ z = 0 ∧ ¬ opC_ σ n (rvC n ev (mk p.toNat)) w.toNat) ∧ FrR σ s ∧ RKc s)) := by
  obtain ⟨hf, hb2, hg, hrg, hC, hS, hW, hP, hRK, hWk⟩ := id hG
  obtain ⟨g1, g2, g3⟩ := id hg
  obtain ⟨⟨X0, hX0⟩, cc, hcc, hcc2⟩ := id hRK
  have hn12 : n ≤ 12 := hC.2.1
  have hN : hI σ (6 + b) 0 = (n : Int) := hC.2.2.1
  have hb : b < 2 := hb2
  have hW10 : W ≤ 10 := by omega
  have hP6 : P ≤ 6 := by omega
  obtain ⟨d, rfl⟩ : ∃ d, D = d + 1 := ⟨D - 1, by omega⟩
  refine am_enter rfl rfl (Nat.le_of_ble_eq_true rfl) ?_
  refine g_aload_n dX6_opens_0 rfl ?_
  refine g_iload_n dX6_opens_1 rfl ?_
  refine g_callvR dX6_opens_2 tm_6_67 rfl ⟨rfl, rfl⟩ rfl (Nat.le_of_ble_eq_true rfl) (cc6_workAt (by omega) σ hf _ (by omega)) (fun z2 s2 h2 => ?_)
  obtain ⟨h2, e2⟩ := h2
  obtain rfl := e2.symm
  refine g_astore_n dX6_opens_5 (by decide) rfl ?_
  refine g_aload_n dX6_opens_6 rfl ?_
  refine g_iload_n dX6_opens_7 rfl ?_
  refine g_callvI dX6_opens_8 tm_6_59 rfl ⟨rfl, rfl⟩ rfl (Nat.le_of_ble_eq_true rfl) (cc6_isPupil (by omega) σ hf _ (by omega)) (fun z8 s8 h8 => ?_)
  obtain ⟨h8, e8⟩ := h8
  obtain rfl := e8.symm
  refine g_if_eq (tgt := 18) dX6_opens_11 (by decide) (fun c11 => ?_) (fun c11 => ?_)
  · refine g_aload_n dX6_opens_18 rfl ?_
    refine g_iconst dX6_opens_19 ⟨by decide, by decide⟩ ?_
    refine g_callvI dX6_opens_20 tm_6_55 rfl ⟨rfl, rfl⟩ rfl (Nat.le_of_ble_eq_true rfl) (cc6_refuse (by omega) σ hf _ ⟨by omega, by omega⟩ g3) (fun z20 s20 h20 => ?_)
    obtain ⟨h20, e20⟩ := h20
    obtain rfl := e20.symm
    subst h20
    refine g_ireturn dX6_opens_23 (Or.inl rfl) ⟨_, rfl, ?_⟩
    exact Or.inl ⟨by omega, rfl, rfl⟩
  · refine g_aload_n dX6_opens_14 rfl ?_
    refine g_ifnonnull (tgt := 24) dX6_opens_15 (by decide) (fun c15 => ?_) (fun c15 => ?_)
    · have hwn : ¬ (0 ≤ w ∧ w < hI σ 0 8) := h2.elim (fun z => by rw [z.2] at c15; cases c15) (fun z => z.1)
      refine g_aload_n dX6_opens_18 rfl ?_
      refine g_iconst dX6_opens_19 ⟨by decide, by decide⟩ ?_
      refine g_callvI dX6_opens_20 tm_6_55 rfl ⟨rfl, rfl⟩ rfl (Nat.le_of_ble_eq_true rfl) (cc6_refuse (by omega) σ hf _ ⟨by omega, by omega⟩ g3) (fun z20 s20 h20 => ?_)
      obtain ⟨h20, e20⟩ := h20
      obtain rfl := e20.symm
      subst h20
      refine g_ireturn dX6_opens_23 (Or.inl rfl) ⟨_, rfl, ?_⟩
      exact Or.inl ⟨by omega, rfl, rfl⟩
    · obtain ⟨hw1, hw2⟩ : (0 ≤ w ∧ w < hI σ 0 8) ∧ z2 = some (37 + w.toNat) := h2.elim id (fun z => absurd z.2 c15)
      subst hw2
      refine g_aload_n dX6_opens_24 rfl ?_
      refine g_iload_n dX6_opens_25 rfl ?_
      refine g_aload_n dX6_opens_26 rfl ?_
      refine g_callvI dX6_opens_27 tm_6_154 rfl ⟨rfl, rfl⟩ rfl (Nat.le_of_ble_eq_true rfl) ((by rw [show vI p = vI ((p.toNat : Nat) : Int) from by congr 1; congr 1; omega]; exact cc6_isOpen (by omega) σ hG p.toNat w.toNat (by omega) (by omega) (hm p.toNat (by omega)))) (fun z27 s27 h27 => ?_)
      obtain ⟨h27, hfr, hrk⟩ := h27
      refine g_if_eq (tgt := 37) dX6_opens_30 (by decide) (fun c30 => ?_) (fun c30 => ?_)
      · refine g_iconst dX6_opens_37 ⟨by decide, by decide⟩ ?_
        refine g_ireturn dX6_opens_38 (Or.inl rfl) ⟨_, rfl, ?_⟩
        refine Or.inr ⟨by omega, ?_, hfr, hrk⟩
        rcases h27 with ⟨y1, y2⟩ | ⟨y1, y2⟩
        · first
            | exact Or.inl ⟨rfl, y2⟩
            | exact absurd y1 (by omega)
        · first
            | exact Or.inr ⟨rfl, y2⟩
            | exact absurd y1 (by omega)
      · refine g_iconst dX6_opens_33 ⟨by decide, by decide⟩ ?_
        refine g_goto (tgt := 38) dX6_opens_34 (by decide) ?_
        refine g_ireturn dX6_opens_38 (Or.inl rfl) ⟨_, rfl, ?_⟩
        refine Or.inr ⟨by omega, ?_, hfr, hrk⟩
        rcases h27 with ⟨y1, y2⟩ | ⟨y1, y2⟩
        · first
            | exact Or.inl ⟨rfl, y2⟩
            | exact absurd y1 (by omega)
        · first
            | exact Or.inr ⟨rfl, y2⟩
            | exact absurd y1 (by omega)

theorem cc6_value {D : Nat} (hD : 10 ≤ D) (σ : am_HS) {b n : Nat} {nm : Nat → Int} {ev : Nat → Den} {ed : Nat → Nat → Prop} {ls : Prop} {W P : Nat} (hG : CG σ b n nm ev ed ls W P) {mk : Nat → Nat → Vl} (hm : ∀ p, p < P → mkOK σ W p (mk p)) (p r what : Int) : am_Do lc D mX6_value σ [vR (some 0), vI p, vI r, vI what] (qI fun z s => (¬ (0 ≤ p ∧ p < hI σ 0 7 ∧ 0 ≤ r ∧ r < (n : Int)) ∧ z = 2000000000 + 1 ∧ s = uI σ 8 1 (hI σ 8 1 + 1)) ∨ ((0 ≤ p ∧ p < hI σ 0 7 ∧ 0 ≤ r ∧ r < (n : Int)) ∧ ¬ (0 ≤ what ∧ what < 3) ∧ z = 2000000000 + 2 ∧ s = uI σ 8 2 (hI σ 8 2 + 1)) ∨ ((0 ≤ p ∧ p < hI σ 0 7 ∧ 0 ≤ r ∧ r < (n : Int)) ∧ (0 ≤ what ∧ what < 3) ∧ z = vlA (rvC n ev (mk p.toNat) r.toNat) what ∧ FrR σ s ∧ RKc s)) := by
  obtain ⟨hf, hb2, hg, hrg, hC, hS, hW, hP, hRK, hWk⟩ := id hG
  obtain ⟨g1, g2, g3⟩ := id hg
  obtain ⟨⟨X0, hX0⟩, cc, hcc, hcc2⟩ := id hRK
  have hn12 : n ≤ 12 := hC.2.1
  have hN : hI σ (6 + b) 0 = (n : Int) := hC.2.2.1
  have hb : b < 2 := hb2
  have hW10 : W ≤ 10 := by omega
  have hP6 : P ≤ 6 := by omega
  obtain ⟨d, rfl⟩ : ∃ d, D = d + 1 := ⟨D - 1, by omega⟩
  refine am_enter rfl rfl (Nat.le_of_ble_eq_true rfl) ?_
  refine g_aload_n dX6_value_0 rfl ?_
  refine g_iload_n dX6_value_1 rfl ?_
  refine g_callvI dX6_value_2 tm_6_59 rfl ⟨rfl, rfl⟩ rfl (Nat.le_of_ble_eq_true rfl) (cc6_isPupil (by omega) σ hf _ (by omega)) (fun z2 s2 h2 => ?_)
  obtain ⟨h2, e2⟩ := h2
  obtain rfl := e2.symm
  refine g_if_eq (tgt := 16) dX6_value_5 (by decide) (fun c5 => ?_) (fun c5 => ?_)
  · refine g_ldc dX6_value_16 ti_6_225 ⟨by decide, by decide⟩ ?_
    refine g_aload_n dX6_value_18 rfl ?_
    refine g_iconst dX6_value_19 ⟨by decide, by decide⟩ ?_
    refine g_callvI dX6_value_20 tm_6_55 rfl ⟨rfl, rfl⟩ rfl (Nat.le_of_ble_eq_true rfl) (cc6_refuse (by omega) σ hf _ ⟨by omega, by omega⟩ g3) (fun z20 s20 h20 => ?_)
    obtain ⟨h20, e20⟩ := h20
    obtain rfl := e20.symm
    subst h20
    refine g_isub dX6_value_23 rfl ⟨by omega, by omega⟩ ?_
    refine g_ireturn dX6_value_24 (Or.inl rfl) ⟨_, rfl, ?_⟩
    exact Or.inl ⟨by omega, by omega, rfl⟩
  · refine g_aload_n dX6_value_8 rfl ?_
    refine g_iload_n dX6_value_9 rfl ?_
    refine g_callvI dX6_value_10 tm_6_134 rfl ⟨rfl, rfl⟩ rfl (Nat.le_of_ble_eq_true rfl) (cc6_isRule (by omega) σ hf _ hb2 (by omega)) (fun z10 s10 h10 => ?_)
    obtain ⟨h10, e10⟩ := h10
    obtain rfl := e10.symm
    refine g_if_ne (tgt := 25) dX6_value_13 (by decide) (fun c13 => ?_) (fun c13 => ?_)
    · refine g_iload_n dX6_value_25 rfl ?_
      refine g_if_lt (tgt := 34) dX6_value_26 (by decide) (fun c26 => ?_) (fun c26 => ?_)
      · refine g_ldc dX6_value_34 ti_6_225 ⟨by decide, by decide⟩ ?_
        refine g_aload_n dX6_value_36 rfl ?_
        refine g_bipush dX6_value_37 (by decide) ?_
        refine g_callvI dX6_value_39 tm_6_55 rfl ⟨rfl, rfl⟩ rfl (Nat.le_of_ble_eq_true rfl) (cc6_refuse (by omega) σ hf _ ⟨by omega, by omega⟩ g3) (fun z39 s39 h39 => ?_)
        obtain ⟨h39, e39⟩ := h39
        obtain rfl := e39.symm
        subst h39
        refine g_isub dX6_value_42 rfl ⟨by omega, by omega⟩ ?_
        refine g_ireturn dX6_value_43 (Or.inl rfl) ⟨_, rfl, ?_⟩
        exact Or.inr (Or.inl ⟨by omega, by omega, by omega, rfl⟩)
      · refine g_iload_n dX6_value_29 rfl ?_
        refine g_iconst dX6_value_30 ⟨by decide, by decide⟩ ?_
        refine g_icmp_le (tgt := 44) dX6_value_31 (by decide) (fun c31 => ?_) (fun c31 => ?_)
        · obtain ⟨pn, hpn⟩ : ∃ pn : Nat, p = (pn : Int) := ⟨p.toNat, by omega⟩
          obtain ⟨rn, hrnn⟩ : ∃ rn : Nat, r = (rn : Int) := ⟨r.toNat, by omega⟩
          subst hpn
          subst hrnn
          have hrn : rn < n := by omega
          have hm := hm pn (by omega)
          refine g_aload_n dX6_value_44 rfl ?_
          refine g_iload_n dX6_value_45 rfl ?_
          refine g_callvV dX6_value_46 tm_6_226 rfl ⟨rfl, rfl⟩ rfl (Nat.le_of_ble_eq_true rfl) (cc6_load (by omega) σ hf hg hrg W hW pn (by omega) hX0) (fun s46 h46 => ?_)
          obtain ⟨X1, hL1⟩ := h46
          have hf1 : s46.2.2 = cH b := hL1.1.1.trans hf
          have hC1 := hL1.1.cb hC
          have hN1 := hC1.2.2.1
          obtain ⟨bl, l1, l2, l3⟩ := hC1.2.2.2.2.2.2.1.1 _ hrn
          refine g_aload_n dX6_value_49 rfl ?_
          refine g_getA dX6_value_50 tf_6_35 rfl rfl (crf (by first | exact hf | exact hf1 | exact hf2) rfl) ?_
          refine g_aload_n dX6_value_53 rfl ?_
          refine g_getA dX6_value_54 tf_6_42 rfl rfl (crf (by first | exact hf | exact hf1 | exact hf2) rfl) ?_
          refine g_aload_n dX6_value_57 rfl ?_
          refine g_getA dX6_value_58 tf_6_42 rfl rfl (crf (by first | exact hf | exact hf1 | exact hf2) rfl) ?_
          refine g_iload_n dX6_value_61 rfl ?_
          refine g_callvI dX6_value_62 tm_6_229 rfl ⟨rfl, rfl⟩ (lc_b hb2) (Nat.le_of_ble_eq_true rfl) (cc0_goal (by omega) s46 hf1 hb2 n hN1 hn12 rn hrn bl l1 l2) (fun z62 s62 h62 => ?_)
          obtain ⟨h62, e62⟩ := h62
          obtain rfl := e62.symm
          subst h62
          have hgl : (bl ||| 2 ^ (10 + rn)) < 4194304 := or_lt22 l2 (pow_lt22 (by omega))
          refine g_ldc dX6_value_65 ti_6_232 ⟨by decide, by decide⟩ ?_
          refine g_callvV dX6_value_67 tm_6_233 rfl ⟨rfl, rfl⟩ rfl (Nat.le_of_ble_eq_true rfl) (cc2_settle (by omega) hf1 hC1 hS hL1.2.2.1 (bl ||| 2 ^ (10 + rn)) 4194303 hgl (by decide)) (fun s67 h67 => ?_)
          obtain ⟨X2, hI2⟩ := h67
          have hval := value_K hC1 hS hWk hW10 hL1 hI2 l3 rfl hrn hm
          have hf2 : s67.2.2 = cH b := hI2.1.2.1.trans hf1
          have hfr : FrR σ s67 := hL1.1.tr hI2.1.fr
          have hrk : RKc s67 := hI2.rk (hL1.rk hRK)
          obtain ⟨hvk, hvl⟩ := hI2.2.1 (10 + rn) (by omega)
          rw [hval] at hvk hvl
          refine g_aload_n dX6_value_70 rfl ?_
          refine g_getA dX6_value_71 tf_6_35 rfl rfl (crf (by first | exact hf | exact hf1 | exact hf2) rfl) ?_
          refine g_iload_n dX6_value_74 rfl ?_
          refine g_callvL dX6_value_75 tm_6_237 rfl ⟨rfl, rfl⟩ rfl (Nat.le_of_ble_eq_true rfl) (cc2_ofRule (by omega) s67 hf2 rn (by omega)) (fun z75 s75 h75 => ?_)
          obtain ⟨h75, e75⟩ := h75
          obtain rfl := e75.symm
          rw [hvl] at h75
          refine g_lstore dX6_value_78 (by decide) rfl ?_
          refine g_iload_n dX6_value_80 rfl ?_
          refine g_iconst dX6_value_81 ⟨by decide, by decide⟩ ?_
          refine g_icmp_ne (tgt := 112) dX6_value_82 (by decide) (fun c82 => ?_) (fun c82 => ?_)
          · refine g_lload dX6_value_112 rfl ?_
            refine g_iload_n dX6_value_114 rfl ?_
            refine g_callsI dX6_value_115 tm_6_213 rfl ⟨Nat.le_of_ble_eq_true rfl, rfl, rfl⟩ (Nat.le_of_ble_eq_true rfl) (cc6_part (by omega) s67 hvk _ what h75 (by omega)) (fun z115 s115 h115 => ?_)
            obtain ⟨h115, e115⟩ := h115
            obtain rfl := e115.symm
            refine g_ireturn dX6_value_118 (Or.inl rfl) ⟨_, rfl, ?_⟩
            refine Or.inr (Or.inr ⟨⟨by omega, by omega, by omega, by omega⟩, ⟨by omega, by omega⟩, ?_, hfr, hrk⟩)
            show _ = vlA (rvC n ev (mk pn) rn) what
            unfold vlA
            rw [if_neg (show ¬ what = 2 by omega)]
            exact h115
          · refine g_lload dX6_value_85 rfl ?_
            refine g_callsI dX6_value_87 tm_6_241 rfl ⟨Nat.le_of_ble_eq_true rfl, rfl, rfl⟩ (Nat.le_of_ble_eq_true rfl) (cc4_isNumber (by omega) s67 _ (by rw [h75]; exact encV_r hvk)) (fun z87 s87 h87 => ?_)
            obtain ⟨h87, e87⟩ := h87
            obtain rfl := e87.symm
            refine g_if_eq (tgt := 97) dX6_value_90 (by decide) (fun c90 => ?_) (fun c90 => ?_)
            · refine g_lload dX6_value_97 rfl ?_
              refine g_ldc2 dX6_value_99 tj_6_247 ⟨by decide, by decide⟩ ?_
              refine g_lc_ne (tgt := 110) dX6_value_102 dX6_value_103 (by decide) (fun c103 => ?_) (fun c103 => ?_)
              · refine g_iconst dX6_value_110 ⟨by decide, by decide⟩ ?_
                refine g_ireturn dX6_value_111 (Or.inl rfl) ⟨_, rfl, ?_⟩
                refine Or.inr (Or.inr ⟨⟨by omega, by omega, by omega, by omega⟩, ⟨by omega, by omega⟩, ?_, hfr, hrk⟩)
                show _ = vlA (rvC n ev (mk pn) rn) what
                have hw2 : what = 2 := by omega
                unfold vlA
                rw [if_pos hw2]
                have T := tag_n hvk h75
                first
                  | exact (T.1 (by omega)).symm
                  | exact (T.2.1 (by omega) (by omega)).symm
                  | exact (T.2.2 (by omega) (by omega)).symm
              · refine g_iconst dX6_value_106 ⟨by decide, by decide⟩ ?_
                refine g_goto (tgt := 111) dX6_value_107 (by decide) ?_
                refine g_ireturn dX6_value_111 (Or.inl rfl) ⟨_, rfl, ?_⟩
                refine Or.inr (Or.inr ⟨⟨by omega, by omega, by omega, by omega⟩, ⟨by omega, by omega⟩, ?_, hfr, hrk⟩)
                show _ = vlA (rvC n ev (mk pn) rn) what
                have hw2 : what = 2 := by omega
                unfold vlA
                rw [if_pos hw2]
                have T := tag_n hvk h75
                first
                  | exact (T.1 (by omega)).symm
                  | exact (T.2.1 (by omega) (by omega)).symm
                  | exact (T.2.2 (by omega) (by omega)).symm
            · refine g_iconst dX6_value_93 ⟨by decide, by decide⟩ ?_
              refine g_goto (tgt := 111) dX6_value_94 (by decide) ?_
              refine g_ireturn dX6_value_111 (Or.inl rfl) ⟨_, rfl, ?_⟩
              refine Or.inr (Or.inr ⟨⟨by omega, by omega, by omega, by omega⟩, ⟨by omega, by omega⟩, ?_, hfr, hrk⟩)
              show _ = vlA (rvC n ev (mk pn) rn) what
              have hw2 : what = 2 := by omega
              unfold vlA
              rw [if_pos hw2]
              have T := tag_n hvk h75
              first
                | exact (T.1 (by omega)).symm
                | exact (T.2.1 (by omega) (by omega)).symm
                | exact (T.2.2 (by omega) (by omega)).symm
        · refine g_ldc dX6_value_34 ti_6_225 ⟨by decide, by decide⟩ ?_
          refine g_aload_n dX6_value_36 rfl ?_
          refine g_bipush dX6_value_37 (by decide) ?_
          refine g_callvI dX6_value_39 tm_6_55 rfl ⟨rfl, rfl⟩ rfl (Nat.le_of_ble_eq_true rfl) (cc6_refuse (by omega) σ hf _ ⟨by omega, by omega⟩ g3) (fun z39 s39 h39 => ?_)
          obtain ⟨h39, e39⟩ := h39
          obtain rfl := e39.symm
          subst h39
          refine g_isub dX6_value_42 rfl ⟨by omega, by omega⟩ ?_
          refine g_ireturn dX6_value_43 (Or.inl rfl) ⟨_, rfl, ?_⟩
          exact Or.inr (Or.inl ⟨by omega, by omega, by omega, rfl⟩)
    · refine g_ldc dX6_value_16 ti_6_225 ⟨by decide, by decide⟩ ?_
      refine g_aload_n dX6_value_18 rfl ?_
      refine g_iconst dX6_value_19 ⟨by decide, by decide⟩ ?_
      refine g_callvI dX6_value_20 tm_6_55 rfl ⟨rfl, rfl⟩ rfl (Nat.le_of_ble_eq_true rfl) (cc6_refuse (by omega) σ hf _ ⟨by omega, by omega⟩ g3) (fun z20 s20 h20 => ?_)
      obtain ⟨h20, e20⟩ := h20
      obtain rfl := e20.symm
      subst h20
      refine g_isub dX6_value_23 rfl ⟨by omega, by omega⟩ ?_
      refine g_ireturn dX6_value_24 (Or.inl rfl) ⟨_, rfl, ?_⟩
      exact Or.inl ⟨by omega, by omega, rfl⟩

