/-! THE CLASS: hangs, need, hand -/
theorem cc6_hangs {D : Nat} (hD : 5 ≤ D) (σ : am_HS) {b n : Nat} {nm : Nat → Int} {ev : Nat → Den} {ed : Nat → Nat → Prop} {ls : Prop} {W P : Nat} (hG : CG σ b n nm ev ed ls W P) (r w : Int) : am_Do lc D mX6_hangs σ [vR (some 0), vI r, vI w] (qI fun z s => (¬ (0 ≤ r ∧ r < (n : Int) ∧ 0 ≤ w ∧ w < hI σ 0 8) ∧ z = -1 ∧ s = uI σ 8 1 (hI σ 8 1 + 1)) ∨ ((0 ≤ r ∧ r < (n : Int) ∧ 0 ≤ w ∧ w < hI σ 0 8) ∧ (z = 1 ∧ rch (EdW ed n W (fun w => hI σ (37 + w) 4)) 22 r.toNat (12 + w.toNat) ∨ z = 0 ∧ ¬ rch (EdW ed n W (fun w => hI σ (37 + w) 4)) 22 r.toNat (12 + w.toNat)) ∧ s = σ)) := by
  obtain ⟨hf, hb2, hg, hrg, hC, hS, hW, hP, hRK, hWk⟩ := id hG
  obtain ⟨g1, g2, g3⟩ := id hg
  obtain ⟨⟨X0, hX0⟩, cc, hcc, hcc2⟩ := id hRK
  have hn12 : n ≤ 12 := hC.2.1
  have hN : hI σ (6 + b) 0 = (n : Int) := hC.2.2.1
  have hb : b < 2 := hb2
  have hW10 : W ≤ 10 := by omega
  have hP6 : P ≤ 6 := by omega
  obtain ⟨d, rfl⟩ : ∃ d, D = d + 1 := ⟨D - 1, by omega⟩
  refine am_enter rfl rfl (Nat.le_of_ble_eq_true rfl) ?_
  refine g_aload_n dX6_hangs_0 rfl ?_
  refine g_iload_n dX6_hangs_1 rfl ?_
  refine g_callvI dX6_hangs_2 tm_6_134 rfl ⟨rfl, rfl⟩ rfl (Nat.le_of_ble_eq_true rfl) (cc6_isRule (by omega) σ hf _ hb2 (by omega)) (fun z2 s2 h2 => ?_)
  obtain ⟨h2, e2⟩ := h2
  obtain rfl := e2.symm
  refine g_if_eq (tgt := 16) dX6_hangs_5 (by decide) (fun c5 => ?_) (fun c5 => ?_)
  · refine g_aload_n dX6_hangs_16 rfl ?_
    refine g_iconst dX6_hangs_17 ⟨by decide, by decide⟩ ?_
    refine g_callvI dX6_hangs_18 tm_6_55 rfl ⟨rfl, rfl⟩ rfl (Nat.le_of_ble_eq_true rfl) (cc6_refuse (by omega) σ hf _ ⟨by omega, by omega⟩ g3) (fun z18 s18 h18 => ?_)
    obtain ⟨h18, e18⟩ := h18
    obtain rfl := e18.symm
    subst h18
    refine g_ireturn dX6_hangs_21 (Or.inl rfl) ⟨_, rfl, ?_⟩
    exact Or.inl ⟨by omega, rfl, rfl⟩
  · refine g_aload_n dX6_hangs_8 rfl ?_
    refine g_iload_n dX6_hangs_9 rfl ?_
    refine g_callvR dX6_hangs_10 tm_6_67 rfl ⟨rfl, rfl⟩ rfl (Nat.le_of_ble_eq_true rfl) (cc6_workAt (by omega) σ hf _ (by omega)) (fun z10 s10 h10 => ?_)
    obtain ⟨h10, e10⟩ := h10
    obtain rfl := e10.symm
    refine g_ifnonnull (tgt := 22) dX6_hangs_13 (by decide) (fun c13 => ?_) (fun c13 => ?_)
    · have hwn : ¬ (0 ≤ w ∧ w < hI σ 0 8) := h10.elim (fun z => by rw [z.2] at c13; cases c13) (fun z => z.1)
      refine g_aload_n dX6_hangs_16 rfl ?_
      refine g_iconst dX6_hangs_17 ⟨by decide, by decide⟩ ?_
      refine g_callvI dX6_hangs_18 tm_6_55 rfl ⟨rfl, rfl⟩ rfl (Nat.le_of_ble_eq_true rfl) (cc6_refuse (by omega) σ hf _ ⟨by omega, by omega⟩ g3) (fun z18 s18 h18 => ?_)
      obtain ⟨h18, e18⟩ := h18
      obtain rfl := e18.symm
      subst h18
      refine g_ireturn dX6_hangs_21 (Or.inl rfl) ⟨_, rfl, ?_⟩
      exact Or.inl ⟨by omega, rfl, rfl⟩
    · obtain ⟨hw1, hw2⟩ : (0 ≤ w ∧ w < hI σ 0 8) ∧ z10 = some (37 + w.toNat) := h10.elim id (fun z => absurd z.2 c13)
      subst hw2
      refine g_aload_n dX6_hangs_22 rfl ?_
      refine g_aload_n dX6_hangs_23 rfl ?_
      refine g_getA dX6_hangs_24 tf_6_42 rfl rfl (crf hf rfl) ?_
      refine g_iload_n dX6_hangs_27 rfl ?_
      refine g_callvI dX6_hangs_28 tm_6_140 rfl ⟨rfl, rfl⟩ rfl (Nat.le_of_ble_eq_true rfl) ((by rw [show vI r = vI ((r.toNat : Nat) : Int) from by congr 1; congr 1; omega]; exact cc6_under (by omega) σ hf hb2 n hN hn12 W hW hW10 hC.2.2.2.2.2.1 hS.2.2.2.1 r.toNat (by omega))) (fun z28 s28 h28 => ?_)
      obtain ⟨⟨G, q1, q2, q3⟩, e28⟩ := h28
      obtain rfl := e28.symm
      subst q1
      refine g_iload_n dX6_hangs_31 rfl ?_
      refine g_callsI dX6_hangs_32 tm_6_144 rfl ⟨Nat.le_of_ble_eq_true rfl, rfl, rfl⟩ (Nat.le_of_ble_eq_true rfl) ((by rw [show vI w = vI ((w.toNat : Nat) : Int) from by congr 1; congr 1; omega]; exact cc6_bit (by omega) σ G w.toNat (by omega) (by omega))) (fun z32 s32 h32 => ?_)
      obtain ⟨h32, e32⟩ := h32
      obtain rfl := e32.symm
      have hgw := q3 w.toNat
      rw [phB_w (by omega)] at hgw
      refine g_ireturn dX6_hangs_35 (Or.inl rfl) ⟨_, rfl, ?_⟩
      refine Or.inr ⟨by omega, ?_, rfl⟩
      rcases h32 with ⟨y1, y2⟩ | ⟨y1, y2⟩
      · exact Or.inl ⟨y1, (hgw.mp y2).2⟩
      · exact Or.inr ⟨y1, fun z => y2 (hgw.mpr ⟨by omega, z⟩)⟩

theorem cc6_need {D : Nat} (hD : 5 ≤ D) (σ : am_HS) {b n : Nat} {nm : Nat → Int} {ev : Nat → Den} {ed : Nat → Nat → Prop} {ls : Prop} {W P : Nat} (hG : CG σ b n nm ev ed ls W P) (w r q : Int) : am_Do lc D mX6_need σ [vR (some 0), vI w, vI r, vI q] (qI fun z s => (¬ ((0 ≤ w ∧ w < hI σ 0 8) ∧ (r = -1 ∨ (0 ≤ r ∧ r < (n : Int)))) ∧ z = -1 ∧ s = uI σ 8 1 (hI σ 8 1 + 1)) ∨ (((0 ≤ w ∧ w < hI σ 0 8) ∧ (r = -1 ∨ (0 ≤ r ∧ r < (n : Int)))) ∧ q < 0 ∧ z = -4 ∧ s = uI σ 8 4 (hI σ 8 4 + 1)) ∨ (((0 ≤ w ∧ w < hI σ 0 8) ∧ (r = -1 ∨ (0 ≤ r ∧ r < (n : Int)))) ∧ 9999 < q ∧ z = -6 ∧ s = uI σ 8 6 (hI σ 8 6 + 1)) ∨ (((0 ≤ w ∧ w < hI σ 0 8) ∧ (r = -1 ∨ (0 ≤ r ∧ r < (n : Int)))) ∧ 0 ≤ q ∧ q ≤ 9999 ∧ (r ≠ -1 ∧ rch (EdW ed n W (fun w => hI σ (37 + w) 4)) 22 r.toNat (12 + w.toNat)) ∧ z = -5 ∧ s = uI σ 8 5 (hI σ 8 5 + 1)) ∨ (((0 ≤ w ∧ w < hI σ 0 8) ∧ (r = -1 ∨ (0 ≤ r ∧ r < (n : Int)))) ∧ 0 ≤ q ∧ q ≤ 9999 ∧ ¬ (r ≠ -1 ∧ rch (EdW ed n W (fun w => hI σ (37 + w) 4)) 22 r.toNat (12 + w.toNat)) ∧ z = 1 ∧ s = uI (uI σ (37 + w.toNat) 4 r) (37 + w.toNat) 5 q)) := by
  obtain ⟨hf, hb2, hg, hrg, hC, hS, hW, hP, hRK, hWk⟩ := id hG
  obtain ⟨g1, g2, g3⟩ := id hg
  obtain ⟨⟨X0, hX0⟩, cc, hcc, hcc2⟩ := id hRK
  have hn12 : n ≤ 12 := hC.2.1
  have hN : hI σ (6 + b) 0 = (n : Int) := hC.2.2.1
  have hb : b < 2 := hb2
  have hW10 : W ≤ 10 := by omega
  have hP6 : P ≤ 6 := by omega
  obtain ⟨d, rfl⟩ : ∃ d, D = d + 1 := ⟨D - 1, by omega⟩
  refine am_enter rfl rfl (Nat.le_of_ble_eq_true rfl) ?_
  refine g_aload_n dX6_need_0 rfl ?_
  refine g_iload_n dX6_need_1 rfl ?_
  refine g_callvR dX6_need_2 tm_6_67 rfl ⟨rfl, rfl⟩ rfl (Nat.le_of_ble_eq_true rfl) (cc6_workAt (by omega) σ hf _ (by omega)) (fun z2 s2 h2 => ?_)
  obtain ⟨h2, e2⟩ := h2
  obtain rfl := e2.symm
  refine g_astore dX6_need_5 (by decide) rfl ?_
  refine g_aload dX6_need_7 rfl ?_
  refine g_ifnull (tgt := 25) dX6_need_9 (by decide) (fun c9 => ?_) (fun c9 => ?_)
  · have hwn : ¬ (0 ≤ w ∧ w < hI σ 0 8) := h2.elim (fun z => by rw [z.2] at c9; cases c9) (fun z => z.1)
    refine g_aload_n dX6_need_25 rfl ?_
    refine g_iconst dX6_need_26 ⟨by decide, by decide⟩ ?_
    refine g_callvI dX6_need_27 tm_6_55 rfl ⟨rfl, rfl⟩ rfl (Nat.le_of_ble_eq_true rfl) (cc6_refuse (by omega) σ hf _ ⟨by omega, by omega⟩ g3) (fun z27 s27 h27 => ?_)
    obtain ⟨h27, e27⟩ := h27
    obtain rfl := e27.symm
    subst h27
    refine g_ireturn dX6_need_30 (Or.inl rfl) ⟨_, rfl, ?_⟩
    refine Or.inl ⟨fun z => ?_, rfl, rfl⟩
    have z1 := z.1
    omega
  · obtain ⟨hw1, hw2⟩ : (0 ≤ w ∧ w < hI σ 0 8) ∧ z2 = some (37 + w.toNat) := h2.elim id (fun z => absurd z.2 c9)
    subst hw2
    refine g_iload_n dX6_need_12 rfl ?_
    refine g_iconst dX6_need_13 ⟨by decide, by decide⟩ ?_
    refine g_icmp_eq (tgt := 31) dX6_need_14 (by decide) (fun c14 => ?_) (fun c14 => ?_)
    · refine g_iload_n dX6_need_31 rfl ?_
      refine g_if_ge (tgt := 42) dX6_need_32 (by decide) (fun c32 => ?_) (fun c32 => ?_)
      · refine g_iload_n dX6_need_42 rfl ?_
        refine g_sipush dX6_need_43 (by decide) ?_
        refine g_icmp_le (tgt := 56) dX6_need_46 (by decide) (fun c46 => ?_) (fun c46 => ?_)
        · refine g_iload_n dX6_need_56 rfl ?_
          refine g_iconst dX6_need_57 ⟨by decide, by decide⟩ ?_
          refine g_icmp_eq (tgt := 85) dX6_need_58 (by decide) (fun c58 => ?_) (fun c58 => ?_)
          · refine g_aload dX6_need_85 rfl ?_
            refine g_iload_n dX6_need_87 rfl ?_
            refine g_putI dX6_need_88 tf_6_148 (lc_w (by omega)) rfl rfl ?_
            refine g_aload dX6_need_91 rfl ?_
            refine g_iload_n dX6_need_93 rfl ?_
            refine g_putI dX6_need_94 tf_6_151 (lc_w (by omega)) rfl rfl ?_
            refine g_iconst dX6_need_97 ⟨by decide, by decide⟩ ?_
            refine g_ireturn dX6_need_98 (Or.inl rfl) ⟨_, rfl, ?_⟩
            refine Or.inr (Or.inr (Or.inr (Or.inr ⟨⟨hw1, by omega⟩, by omega, by omega, ?_, rfl, rfl⟩)))
            first
              | exact fun z => absurd (show r = -1 by omega) z.1
              | (rintro ⟨z1, z2⟩
                 rcases h71 with ⟨y1, y2⟩ | ⟨y1, y2⟩
                 · exact absurd y1 (by omega)
                 · exact y2 (hgw.mpr ⟨by omega, z2⟩))
          · refine g_aload_n dX6_need_61 rfl ?_
            refine g_aload_n dX6_need_62 rfl ?_
            refine g_getA dX6_need_63 tf_6_42 rfl rfl (crf hf rfl) ?_
            refine g_iload_n dX6_need_66 rfl ?_
            refine g_callvI dX6_need_67 tm_6_140 rfl ⟨rfl, rfl⟩ rfl (Nat.le_of_ble_eq_true rfl) ((by rw [show vI r = vI ((r.toNat : Nat) : Int) from by congr 1; congr 1; omega]; exact cc6_under (by omega) σ hf hb2 n hN hn12 W hW hW10 hC.2.2.2.2.2.1 hS.2.2.2.1 r.toNat (by omega))) (fun z67 s67 h67 => ?_)
            obtain ⟨⟨G, q1, q2, q3⟩, e67⟩ := h67
            obtain rfl := e67.symm
            subst q1
            refine g_iload_n dX6_need_70 rfl ?_
            refine g_callsI dX6_need_71 tm_6_144 rfl ⟨Nat.le_of_ble_eq_true rfl, rfl, rfl⟩ (Nat.le_of_ble_eq_true rfl) ((by rw [show vI w = vI ((w.toNat : Nat) : Int) from by congr 1; congr 1; omega]; exact cc6_bit (by omega) σ G w.toNat (by omega) (by omega))) (fun z71 s71 h71 => ?_)
            obtain ⟨h71, e71⟩ := h71
            obtain rfl := e71.symm
            have hgw := q3 w.toNat
            rw [phB_w (by omega)] at hgw
            refine g_iconst dX6_need_74 ⟨by decide, by decide⟩ ?_
            refine g_icmp_ne (tgt := 85) dX6_need_75 (by decide) (fun c75 => ?_) (fun c75 => ?_)
            · refine g_aload dX6_need_85 rfl ?_
              refine g_iload_n dX6_need_87 rfl ?_
              refine g_putI dX6_need_88 tf_6_148 (lc_w (by omega)) rfl rfl ?_
              refine g_aload dX6_need_91 rfl ?_
              refine g_iload_n dX6_need_93 rfl ?_
              refine g_putI dX6_need_94 tf_6_151 (lc_w (by omega)) rfl rfl ?_
              refine g_iconst dX6_need_97 ⟨by decide, by decide⟩ ?_
              refine g_ireturn dX6_need_98 (Or.inl rfl) ⟨_, rfl, ?_⟩
              refine Or.inr (Or.inr (Or.inr (Or.inr ⟨⟨hw1, by omega⟩, by omega, by omega, ?_, rfl, rfl⟩)))
              first
                | exact fun z => absurd (show r = -1 by omega) z.1
                | (rintro ⟨z1, z2⟩
                   rcases h71 with ⟨y1, y2⟩ | ⟨y1, y2⟩
                   · exact absurd y1 (by omega)
                   · exact y2 (hgw.mpr ⟨by omega, z2⟩))
            · refine g_aload_n dX6_need_78 rfl ?_
              refine g_bipush dX6_need_79 (by decide) ?_
              refine g_callvI dX6_need_81 tm_6_55 rfl ⟨rfl, rfl⟩ rfl (Nat.le_of_ble_eq_true rfl) (cc6_refuse (by omega) σ hf _ ⟨by omega, by omega⟩ g3) (fun z81 s81 h81 => ?_)
              obtain ⟨h81, e81⟩ := h81
              obtain rfl := e81.symm
              subst h81
              refine g_ireturn dX6_need_84 (Or.inl rfl) ⟨_, rfl, ?_⟩
              refine Or.inr (Or.inr (Or.inr (Or.inl ⟨⟨hw1, by omega⟩, by omega, by omega, ⟨by omega, ?_⟩, rfl, rfl⟩)))
              rcases h71 with ⟨y1, y2⟩ | ⟨y1, y2⟩
              · exact (hgw.mp y2).2
              · exact absurd y1 (by omega)
        · refine g_aload_n dX6_need_49 rfl ?_
          refine g_bipush dX6_need_50 (by decide) ?_
          refine g_callvI dX6_need_52 tm_6_55 rfl ⟨rfl, rfl⟩ rfl (Nat.le_of_ble_eq_true rfl) (cc6_refuse (by omega) σ hf _ ⟨by omega, by omega⟩ g3) (fun z52 s52 h52 => ?_)
          obtain ⟨h52, e52⟩ := h52
          obtain rfl := e52.symm
          subst h52
          refine g_ireturn dX6_need_55 (Or.inl rfl) ⟨_, rfl, ?_⟩
          exact Or.inr (Or.inr (Or.inl ⟨⟨hw1, by omega⟩, by omega, rfl, rfl⟩))
      · refine g_aload_n dX6_need_35 rfl ?_
        refine g_bipush dX6_need_36 (by decide) ?_
        refine g_callvI dX6_need_38 tm_6_55 rfl ⟨rfl, rfl⟩ rfl (Nat.le_of_ble_eq_true rfl) (cc6_refuse (by omega) σ hf _ ⟨by omega, by omega⟩ g3) (fun z38 s38 h38 => ?_)
        obtain ⟨h38, e38⟩ := h38
        obtain rfl := e38.symm
        subst h38
        refine g_ireturn dX6_need_41 (Or.inl rfl) ⟨_, rfl, ?_⟩
        exact Or.inr (Or.inl ⟨⟨hw1, by omega⟩, by omega, rfl, rfl⟩)
    · refine g_aload_n dX6_need_17 rfl ?_
      refine g_iload_n dX6_need_18 rfl ?_
      refine g_callvI dX6_need_19 tm_6_134 rfl ⟨rfl, rfl⟩ rfl (Nat.le_of_ble_eq_true rfl) (cc6_isRule (by omega) σ hf _ hb2 (by omega)) (fun z19 s19 h19 => ?_)
      obtain ⟨h19, e19⟩ := h19
      obtain rfl := e19.symm
      refine g_if_ne (tgt := 31) dX6_need_22 (by decide) (fun c22 => ?_) (fun c22 => ?_)
      · refine g_iload_n dX6_need_31 rfl ?_
        refine g_if_ge (tgt := 42) dX6_need_32 (by decide) (fun c32 => ?_) (fun c32 => ?_)
        · refine g_iload_n dX6_need_42 rfl ?_
          refine g_sipush dX6_need_43 (by decide) ?_
          refine g_icmp_le (tgt := 56) dX6_need_46 (by decide) (fun c46 => ?_) (fun c46 => ?_)
          · refine g_iload_n dX6_need_56 rfl ?_
            refine g_iconst dX6_need_57 ⟨by decide, by decide⟩ ?_
            refine g_icmp_eq (tgt := 85) dX6_need_58 (by decide) (fun c58 => ?_) (fun c58 => ?_)
            · refine g_aload dX6_need_85 rfl ?_
              refine g_iload_n dX6_need_87 rfl ?_
              refine g_putI dX6_need_88 tf_6_148 (lc_w (by omega)) rfl rfl ?_
              refine g_aload dX6_need_91 rfl ?_
              refine g_iload_n dX6_need_93 rfl ?_
              refine g_putI dX6_need_94 tf_6_151 (lc_w (by omega)) rfl rfl ?_
              refine g_iconst dX6_need_97 ⟨by decide, by decide⟩ ?_
              refine g_ireturn dX6_need_98 (Or.inl rfl) ⟨_, rfl, ?_⟩
              refine Or.inr (Or.inr (Or.inr (Or.inr ⟨⟨hw1, by omega⟩, by omega, by omega, ?_, rfl, rfl⟩)))
              first
                | exact fun z => absurd (show r = -1 by omega) z.1
                | (rintro ⟨z1, z2⟩
                   rcases h71 with ⟨y1, y2⟩ | ⟨y1, y2⟩
                   · exact absurd y1 (by omega)
                   · exact y2 (hgw.mpr ⟨by omega, z2⟩))
            · refine g_aload_n dX6_need_61 rfl ?_
              refine g_aload_n dX6_need_62 rfl ?_
              refine g_getA dX6_need_63 tf_6_42 rfl rfl (crf hf rfl) ?_
              refine g_iload_n dX6_need_66 rfl ?_
              refine g_callvI dX6_need_67 tm_6_140 rfl ⟨rfl, rfl⟩ rfl (Nat.le_of_ble_eq_true rfl) ((by rw [show vI r = vI ((r.toNat : Nat) : Int) from by congr 1; congr 1; omega]; exact cc6_under (by omega) σ hf hb2 n hN hn12 W hW hW10 hC.2.2.2.2.2.1 hS.2.2.2.1 r.toNat (by omega))) (fun z67 s67 h67 => ?_)
              obtain ⟨⟨G, q1, q2, q3⟩, e67⟩ := h67
              obtain rfl := e67.symm
              subst q1
              refine g_iload_n dX6_need_70 rfl ?_
              refine g_callsI dX6_need_71 tm_6_144 rfl ⟨Nat.le_of_ble_eq_true rfl, rfl, rfl⟩ (Nat.le_of_ble_eq_true rfl) ((by rw [show vI w = vI ((w.toNat : Nat) : Int) from by congr 1; congr 1; omega]; exact cc6_bit (by omega) σ G w.toNat (by omega) (by omega))) (fun z71 s71 h71 => ?_)
              obtain ⟨h71, e71⟩ := h71
              obtain rfl := e71.symm
              have hgw := q3 w.toNat
              rw [phB_w (by omega)] at hgw
              refine g_iconst dX6_need_74 ⟨by decide, by decide⟩ ?_
              refine g_icmp_ne (tgt := 85) dX6_need_75 (by decide) (fun c75 => ?_) (fun c75 => ?_)
              · refine g_aload dX6_need_85 rfl ?_
                refine g_iload_n dX6_need_87 rfl ?_
                refine g_putI dX6_need_88 tf_6_148 (lc_w (by omega)) rfl rfl ?_
                refine g_aload dX6_need_91 rfl ?_
                refine g_iload_n dX6_need_93 rfl ?_
                refine g_putI dX6_need_94 tf_6_151 (lc_w (by omega)) rfl rfl ?_
                refine g_iconst dX6_need_97 ⟨by decide, by decide⟩ ?_
                refine g_ireturn dX6_need_98 (Or.inl rfl) ⟨_, rfl, ?_⟩
                refine Or.inr (Or.inr (Or.inr (Or.inr ⟨⟨hw1, by omega⟩, by omega, by omega, ?_, rfl, rfl⟩)))
                first
                  | exact fun z => absurd (show r = -1 by omega) z.1
                  | (rintro ⟨z1, z2⟩
                     rcases h71 with ⟨y1, y2⟩ | ⟨y1, y2⟩
                     · exact absurd y1 (by omega)
                     · exact y2 (hgw.mpr ⟨by omega, z2⟩))
              · refine g_aload_n dX6_need_78 rfl ?_
                refine g_bipush dX6_need_79 (by decide) ?_
                refine g_callvI dX6_need_81 tm_6_55 rfl ⟨rfl, rfl⟩ rfl (Nat.le_of_ble_eq_true rfl) (cc6_refuse (by omega) σ hf _ ⟨by omega, by omega⟩ g3) (fun z81 s81 h81 => ?_)
                obtain ⟨h81, e81⟩ := h81
                obtain rfl := e81.symm
                subst h81
                refine g_ireturn dX6_need_84 (Or.inl rfl) ⟨_, rfl, ?_⟩
                refine Or.inr (Or.inr (Or.inr (Or.inl ⟨⟨hw1, by omega⟩, by omega, by omega, ⟨by omega, ?_⟩, rfl, rfl⟩)))
                rcases h71 with ⟨y1, y2⟩ | ⟨y1, y2⟩
                · exact (hgw.mp y2).2
                · exact absurd y1 (by omega)
          · refine g_aload_n dX6_need_49 rfl ?_
            refine g_bipush dX6_need_50 (by decide) ?_
            refine g_callvI dX6_need_52 tm_6_55 rfl ⟨rfl, rfl⟩ rfl (Nat.le_of_ble_eq_true rfl) (cc6_refuse (by omega) σ hf _ ⟨by omega, by omega⟩ g3) (fun z52 s52 h52 => ?_)
            obtain ⟨h52, e52⟩ := h52
            obtain rfl := e52.symm
            subst h52
            refine g_ireturn dX6_need_55 (Or.inl rfl) ⟨_, rfl, ?_⟩
            exact Or.inr (Or.inr (Or.inl ⟨⟨hw1, by omega⟩, by omega, rfl, rfl⟩))
        · refine g_aload_n dX6_need_35 rfl ?_
          refine g_bipush dX6_need_36 (by decide) ?_
          refine g_callvI dX6_need_38 tm_6_55 rfl ⟨rfl, rfl⟩ rfl (Nat.le_of_ble_eq_true rfl) (cc6_refuse (by omega) σ hf _ ⟨by omega, by omega⟩ g3) (fun z38 s38 h38 => ?_)
          obtain ⟨h38, e38⟩ := h38
          obtain rfl := e38.symm
          subst h38
          refine g_ireturn dX6_need_41 (Or.inl rfl) ⟨_, rfl, ?_⟩
          exact Or.inr (Or.inl ⟨⟨hw1, by omega⟩, by omega, rfl, rfl⟩)
      · refine g_aload_n dX6_need_25 rfl ?_
        refine g_iconst dX6_need_26 ⟨by decide, by decide⟩ ?_
        refine g_callvI dX6_need_27 tm_6_55 rfl ⟨rfl, rfl⟩ rfl (Nat.le_of_ble_eq_true rfl) (cc6_refuse (by omega) σ hf _ ⟨by omega, by omega⟩ g3) (fun z27 s27 h27 => ?_)
        obtain ⟨h27, e27⟩ := h27
        obtain rfl := e27.symm
        subst h27
        refine g_ireturn dX6_need_30 (Or.inl rfl) ⟨_, rfl, ?_⟩
        refine Or.inl ⟨fun z => ?_, rfl, rfl⟩
        have z1 := z.1
        omega

/-- what 'hand' answers, from the state behind the reckoning -/
def haQ (τ : am_HS) (opn : Prop) (P p w : Nat) (z : Int) (s : am_HS) : Prop := ((hI τ (47 + 4 * (10 * p + w)) 1 ≠ 0 ∨ ¬ opn ∨ ¬ tmC τ (10 * p + w) (hI τ (37 + w) 0)) ∧ z = -3 ∧ s = uI τ 8 3 (hI τ 8 3 + 1)) ∨ (¬ (hI τ (47 + 4 * (10 * p + w)) 1 ≠ 0 ∨ ¬ opn ∨ ¬ tmC τ (10 * p + w) (hI τ (37 + w) 0)) ∧ ((hI τ (37 + w) 0 = 1 ∧ ((∃ q, q < P ∧ hI τ 1 q = hI τ 1 p ∧ (0 ≤ lmC τ (10 * q + w) ∨ 0 < shC τ (10 * q + w))) ∧ z = -3 ∧ s = uI τ 8 3 (hI τ 8 3 + 1) ∨ ¬ (∃ q, q < P ∧ hI τ 1 q = hI τ 1 p ∧ (0 ≤ lmC τ (10 * q + w) ∨ 0 < shC τ (10 * q + w))) ∧ z = (cntB (sgC τ p) P : Int) ∧ s = uI (haC τ w p P) 0 10 (hI τ 0 10 + (cntB (sgC τ p) P : Int)))) ∨ (hI τ (37 + w) 0 ≠ 1 ∧ z = 1 ∧ s = uI (adC τ (10 * p + w) (hI τ (37 + w) 0) (hI τ 0 9) (p : Int)) 0 10 (hI τ 0 10 + 1))))
theorem cc6_hand {D : Nat} (hD : 10 ≤ D) (σ : am_HS) {b n : Nat} {nm : Nat → Int} {ev : Nat → Den} {ed : Nat → Nat → Prop} {ls : Prop} {W P : Nat} (hG : CG σ b n nm ev ed ls W P) {mk : Nat → Nat → Vl} (hm : ∀ p, p < P → mkOK σ W p (mk p)) (hhm : ∀ k, k < 60 → hI σ (47 + 4 * k) 2 ≤ 90000) (h10 : 0 ≤ hI σ 0 10 ∧ hI σ 0 10 ≤ 100000) (p w : Int) : am_Do lc D mX6_hand σ [vR (some 0), vI p, vI w] (qI fun z s => (¬ (0 ≤ p ∧ p < hI σ 0 7 ∧ 0 ≤ w ∧ w < hI σ 0 8) ∧ z = -1 ∧ s = uI σ 8 1 (hI σ 8 1 + 1)) ∨ ((0 ≤ p ∧ p < hI σ 0 7 ∧ 0 ≤ w ∧ w < hI σ 0 8) ∧ ∃ τ, FrR σ τ ∧ RKc τ ∧ haQ τ (opC_ σ n (rvC n ev (mk p.toNat)) w.toNat) P p.toNat w.toNat z s)) := by
  obtain ⟨hf, hb2, hg, hrg, hC, hS, hW, hP, hRK, hWk⟩ := id hG
  obtain ⟨g1, g2, g3⟩ := id hg
  obtain ⟨⟨X0, hX0⟩, cc, hcc, hcc2⟩ := id hRK
  have hn12 : n ≤ 12 := hC.2.1
  have hN : hI σ (6 + b) 0 = (n : Int) := hC.2.2.1
  have hb : b < 2 := hb2
  have hW10 : W ≤ 10 := by omega
  have hP6 : P ≤ 6 := by omega
  obtain ⟨d, rfl⟩ : ∃ d, D = d + 1 := ⟨D - 1, by omega⟩
  refine am_enter rfl rfl (Nat.le_of_ble_eq_true rfl) ?_
  refine g_aload_n dX6_hand_0 rfl ?_
  refine g_iload_n dX6_hand_1 rfl ?_
  refine g_callvR dX6_hand_2 tm_6_67 rfl ⟨rfl, rfl⟩ rfl (Nat.le_of_ble_eq_true rfl) (cc6_workAt (by omega) σ hf _ (by omega)) (fun z2 s2 h2 => ?_)
  obtain ⟨h2, e2⟩ := h2
  obtain rfl := e2.symm
  refine g_astore_n dX6_hand_5 (by decide) rfl ?_
  refine g_aload_n dX6_hand_6 rfl ?_
  refine g_iload_n dX6_hand_7 rfl ?_
  refine g_iload_n dX6_hand_8 rfl ?_
  refine g_callvR dX6_hand_9 tm_6_83 rfl ⟨rfl, rfl⟩ rfl (Nat.le_of_ble_eq_true rfl) (cc6_sheetOf (by omega) σ hf hg _ _) (fun z9 s9 h9 => ?_)
  obtain ⟨h9, e9⟩ := h9
  obtain rfl := e9.symm
  refine g_astore dX6_hand_12 (by decide) rfl ?_
  refine g_aload_n dX6_hand_14 rfl ?_
  refine g_ifnull (tgt := 23) dX6_hand_15 (by decide) (fun c15 => ?_) (fun c15 => ?_)
  · have hwn : ¬ (0 ≤ w ∧ w < hI σ 0 8) := h2.elim (fun z => by rw [z.2] at c15; cases c15) (fun z => z.1)
    refine g_aload_n dX6_hand_23 rfl ?_
    refine g_iconst dX6_hand_24 ⟨by decide, by decide⟩ ?_
    refine g_callvI dX6_hand_25 tm_6_55 rfl ⟨rfl, rfl⟩ rfl (Nat.le_of_ble_eq_true rfl) (cc6_refuse (by omega) σ hf _ ⟨by omega, by omega⟩ g3) (fun z25 s25 h25 => ?_)
    obtain ⟨h25, e25⟩ := h25
    obtain rfl := e25.symm
    subst h25
    refine g_ireturn dX6_hand_28 (Or.inl rfl) ⟨_, rfl, ?_⟩
    exact Or.inl ⟨by first | exact hsn | omega, rfl, rfl⟩
  · obtain ⟨hw1, hw2⟩ : (0 ≤ w ∧ w < hI σ 0 8) ∧ z2 = some (37 + w.toNat) := h2.elim id (fun z => absurd z.2 c15)
    subst hw2
    refine g_aload dX6_hand_18 rfl ?_
    refine g_ifnonnull (tgt := 29) dX6_hand_20 (by decide) (fun c20 => ?_) (fun c20 => ?_)
    · have hsn : ¬ (0 ≤ p ∧ p < hI σ 0 7 ∧ 0 ≤ w ∧ w < hI σ 0 8) := h9.elim (fun z => by rw [z.2] at c20; cases c20) (fun z => z.1)
      refine g_aload_n dX6_hand_23 rfl ?_
      refine g_iconst dX6_hand_24 ⟨by decide, by decide⟩ ?_
      refine g_callvI dX6_hand_25 tm_6_55 rfl ⟨rfl, rfl⟩ rfl (Nat.le_of_ble_eq_true rfl) (cc6_refuse (by omega) σ hf _ ⟨by omega, by omega⟩ g3) (fun z25 s25 h25 => ?_)
      obtain ⟨h25, e25⟩ := h25
      obtain rfl := e25.symm
      subst h25
      refine g_ireturn dX6_hand_28 (Or.inl rfl) ⟨_, rfl, ?_⟩
      exact Or.inl ⟨by first | exact hsn | omega, rfl, rfl⟩
    · obtain ⟨hs1, hs2⟩ : (0 ≤ p ∧ p < hI σ 0 7 ∧ 0 ≤ w ∧ w < hI σ 0 8) ∧ z9 = some (47 + 4 * (10 * p + w).toNat) := h9.elim id (fun z => absurd z.2 c20)
      obtain ⟨pn, hpn⟩ : ∃ pn : Nat, p = (pn : Int) := ⟨p.toNat, by omega⟩
      obtain ⟨wn, hwn⟩ : ∃ wn : Nat, w = (wn : Int) := ⟨w.toNat, by omega⟩
      subst hpn
      subst hwn
      rw [show (10 * (pn : Int) + (wn : Int)).toNat = 10 * pn + wn by omega] at hs2
      subst hs2
      have ewn : ((wn : Int)).toNat = wn := by omega
      have hm := hm pn (by omega)
      have hk60 : 10 * pn + wn < 60 := by omega
      refine g_aload dX6_hand_29 rfl ?_
      refine g_getZ dX6_hand_31 tf_6_90 (lc_s (by omega)) rfl ?_
      refine g_if_ne (tgt := 58) dX6_hand_34 (by decide) (fun c34 => ?_) (fun c34 => ?_)
      · refine g_aload_n dX6_hand_58 rfl ?_
        refine g_bipush dX6_hand_59 (by decide) ?_
        refine g_callvI dX6_hand_61 tm_6_55 rfl ⟨rfl, rfl⟩ rfl (Nat.le_of_ble_eq_true rfl) (cc6_refuse (by omega) σ hf _ ⟨by omega, by omega⟩ g3) (fun z61 s61 h61 => ?_)
        refine g_ireturn dX6_hand_64 (Or.inl rfl) ⟨_, rfl, ?_⟩
        obtain ⟨h61, e61⟩ := h61
        subst h61
        subst e61
        refine Or.inr ⟨⟨by omega, by omega, by omega, by omega⟩, σ, FrR.rf σ, hRK, ?_⟩
        show haQ σ (opC_ σ n (rvC n ev (mk pn)) ((wn : Int)).toNat) P pn ((wn : Int)).toNat _ _
        rw [ewn]
        refine Or.inl ⟨?_, rfl, rfl⟩
        first
          | exact Or.inl c34
          | exact Or.inr (Or.inl (fun z => h40.elim (fun w => by omega) (fun w => w.2 z)))
          | exact Or.inr (Or.inr (fun z => h52.elim (fun w => by omega) (fun w => w.2 z)))
      · refine g_aload_n dX6_hand_37 rfl ?_
        refine g_iload_n dX6_hand_38 rfl ?_
        refine g_aload_n dX6_hand_39 rfl ?_
        refine g_callvI dX6_hand_40 tm_6_154 rfl ⟨rfl, rfl⟩ rfl (Nat.le_of_ble_eq_true rfl) (cc6_isOpen (by omega) σ hG pn wn (by omega) (by omega) hm) (fun z40 s40 h40 => ?_)
        obtain ⟨h40, hfr, hrk⟩ := h40
        have hG1 := hG.fr hfr hrk
        obtain ⟨hf1, -, hg1, hrg1, -, -, hW1, hP1, -, -⟩ := id hG1
        obtain ⟨-, -, g31⟩ := id hg1
        have hsh := (hrg1.1 (10 * pn + wn) hk60).2.2.1
        refine g_if_eq (tgt := 58) dX6_hand_43 (by decide) (fun c43 => ?_) (fun c43 => ?_)
        · refine g_aload_n dX6_hand_58 rfl ?_
          refine g_bipush dX6_hand_59 (by decide) ?_
          refine g_callvI dX6_hand_61 tm_6_55 rfl ⟨rfl, rfl⟩ rfl (Nat.le_of_ble_eq_true rfl) (cc6_refuse (by omega) s40 hf1 _ ⟨by omega, by omega⟩ g31) (fun z61 s61 h61 => ?_)
          refine g_ireturn dX6_hand_64 (Or.inl rfl) ⟨_, rfl, ?_⟩
          obtain ⟨h61, e61⟩ := h61
          subst h61
          subst e61
          refine Or.inr ⟨⟨by omega, by omega, by omega, by omega⟩, s40, hfr, hrk, ?_⟩
          show haQ s40 (opC_ σ n (rvC n ev (mk pn)) ((wn : Int)).toNat) P pn ((wn : Int)).toNat _ _
          rw [ewn]
          refine Or.inl ⟨?_, rfl, rfl⟩
          first
            | exact Or.inl c34
            | exact Or.inr (Or.inl (fun z => h40.elim (fun w => by omega) (fun w => w.2 z)))
            | exact Or.inr (Or.inr (fun z => h52.elim (fun w => by omega) (fun w => w.2 z)))
        · refine g_aload dX6_hand_46 rfl ?_
          refine g_aload_n dX6_hand_48 rfl ?_
          refine g_getI dX6_hand_49 tf_6_71 (lc_w (by omega)) rfl ?_
          refine g_callvI dX6_hand_52 tm_6_158 rfl ⟨rfl, rfl⟩ (lc_s (by omega)) (Nat.le_of_ble_eq_true rfl) (cc3_takesMore (by omega) s40 hf1 hk60 _ hsh) (fun z52 s52 h52 => ?_)
          obtain ⟨h52, e52⟩ := h52
          obtain rfl := e52.symm
          refine g_if_ne (tgt := 65) dX6_hand_55 (by decide) (fun c55 => ?_) (fun c55 => ?_)
          · refine g_aload_n dX6_hand_65 rfl ?_
            refine g_getI dX6_hand_66 tf_6_71 (lc_w (by omega)) rfl ?_
            refine g_iconst dX6_hand_69 ⟨by decide, by decide⟩ ?_
            refine g_icmp_ne (tgt := 80) dX6_hand_70 (by decide) (fun c70 => ?_) (fun c70 => ?_)
            · refine g_aload dX6_hand_80 rfl ?_
              refine g_aload_n dX6_hand_82 rfl ?_
              refine g_getI dX6_hand_83 tf_6_71 (lc_w (by omega)) rfl ?_
              refine g_aload_n dX6_hand_86 rfl ?_
              refine g_getI dX6_hand_87 tf_6_94 rfl rfl ?_
              refine g_iload_n dX6_hand_90 rfl ?_
              refine g_callvV dX6_hand_91 tm_6_164 rfl ⟨rfl, rfl⟩ (lc_s (by omega)) (Nat.le_of_ble_eq_true rfl) (cc3_add (by omega) s40 hf1 hk60 _ _ _ ⟨hsh.1, by rw [hfr.2 _ _ (by omega)]; exact hhm _ hk60⟩) (fun s91 h91 => ?_)
              subst h91
              have ead : ∀ (a b c : Int), hI (adC s40 (10 * pn + wn) a b c) 0 10 = hI s40 0 10 := fun a b c => adC_o ⟨by omega, by omega⟩
              have e10 : hI s40 0 10 = hI σ 0 10 := hfr.2 0 10 (by omega)
              refine g_aload_n dX6_hand_94 rfl ?_
              refine g_dup dX6_hand_95 rfl ?_
              refine g_getI dX6_hand_96 tf_6_167 rfl rfl ?_
              rw [ead]
              refine g_iconst dX6_hand_99 ⟨by decide, by decide⟩ ?_
              refine g_iadd dX6_hand_100 rfl ⟨by omega, by omega⟩ ?_
              refine g_putI dX6_hand_101 tf_6_167 rfl rfl rfl ?_
              refine g_iconst dX6_hand_104 ⟨by decide, by decide⟩ ?_
              refine g_ireturn dX6_hand_105 (Or.inl rfl) ⟨_, rfl, ?_⟩
              refine Or.inr ⟨⟨by omega, by omega, by omega, by omega⟩, s40, hfr, hrk, ?_⟩
              show haQ s40 (opC_ σ n (rvC n ev (mk pn)) ((wn : Int)).toNat) P pn ((wn : Int)).toNat _ _
              rw [ewn]
              have ewk : hI s40 (37 + ((wn : Int)).toNat) 0 = hI s40 (37 + wn) 0 := by rw [ewn]
              have e1s : hI s40 (47 + 4 * (10 * pn + wn)) 1 = hI σ (47 + 4 * (10 * pn + wn)) 1 := hfr.2 _ _ (by omega)
              have hno : ¬ (hI s40 (47 + 4 * (10 * pn + wn)) 1 ≠ 0 ∨ ¬ opC_ σ n (rvC n ev (mk pn)) wn ∨ ¬ tmC s40 (10 * pn + wn) (hI s40 (37 + wn) 0)) := by
                rintro (z | z | z)
                · omega
                · exact h40.elim (fun w => z w.2) (fun w => by omega)
                · exact h52.elim (fun w => z w.2) (fun w => by omega)
              exact Or.inr ⟨hno, Or.inr ⟨by omega, rfl, rfl⟩⟩
            · refine g_aload_n dX6_hand_73 rfl ?_
              refine g_iload_n dX6_hand_74 rfl ?_
              refine g_iload_n dX6_hand_75 rfl ?_
              refine g_callvI dX6_hand_76 tm_6_161 rfl ⟨rfl, rfl⟩ rfl (Nat.le_of_ble_eq_true rfl) (cc6_handGrouped (by omega) s40 hf1 hg1 hrg1 (fun k hk => by rw [hfr.2 _ _ (by omega)]; exact hhm k hk) (by rw [hfr.2 0 10 (by omega)]; exact h10) P hP1 pn wn (by omega) (by omega)) (fun z76 s76 h76 => ?_)
              refine g_ireturn dX6_hand_79 (Or.inl rfl) ⟨_, rfl, ?_⟩
              refine Or.inr ⟨⟨by omega, by omega, by omega, by omega⟩, s40, hfr, hrk, ?_⟩
              show haQ s40 (opC_ σ n (rvC n ev (mk pn)) ((wn : Int)).toNat) P pn ((wn : Int)).toNat _ _
              rw [ewn]
              have ewk : hI s40 (37 + ((wn : Int)).toNat) 0 = hI s40 (37 + wn) 0 := by rw [ewn]
              have e1s : hI s40 (47 + 4 * (10 * pn + wn)) 1 = hI σ (47 + 4 * (10 * pn + wn)) 1 := hfr.2 _ _ (by omega)
              have hno : ¬ (hI s40 (47 + 4 * (10 * pn + wn)) 1 ≠ 0 ∨ ¬ opC_ σ n (rvC n ev (mk pn)) wn ∨ ¬ tmC s40 (10 * pn + wn) (hI s40 (37 + wn) 0)) := by
                rintro (z | z | z)
                · omega
                · exact h40.elim (fun w => z w.2) (fun w => by omega)
                · exact h52.elim (fun w => z w.2) (fun w => by omega)
              exact Or.inr ⟨hno, Or.inl ⟨by omega, h76⟩⟩
          · refine g_aload_n dX6_hand_58 rfl ?_
            refine g_bipush dX6_hand_59 (by decide) ?_
            refine g_callvI dX6_hand_61 tm_6_55 rfl ⟨rfl, rfl⟩ rfl (Nat.le_of_ble_eq_true rfl) (cc6_refuse (by omega) s40 hf1 _ ⟨by omega, by omega⟩ g31) (fun z61 s61 h61 => ?_)
            refine g_ireturn dX6_hand_64 (Or.inl rfl) ⟨_, rfl, ?_⟩
            obtain ⟨h61, e61⟩ := h61
            subst h61
            subst e61
            refine Or.inr ⟨⟨by omega, by omega, by omega, by omega⟩, s40, hfr, hrk, ?_⟩
            show haQ s40 (opC_ σ n (rvC n ev (mk pn)) ((wn : Int)).toNat) P pn ((wn : Int)).toNat _ _
            rw [ewn]
            refine Or.inl ⟨?_, rfl, rfl⟩
            first
              | exact Or.inl c34
              | exact Or.inr (Or.inl (fun z => h40.elim (fun w => by omega) (fun w => w.2 z)))
              | exact Or.inr (Or.inr (fun z => h52.elim (fun w => by omega) (fun w => w.2 z)))

