/-! THE CLASS: a sum of the grammar -/
theorem or01 {m y : Int} (hm : m = 0 ∨ m = 1) (hy : y = 0 ∨ y = 1) : (Int32.ofInt m ||| Int32.ofInt y).toInt = if m = 1 ∨ y = 1 then 1 else 0 := by
  rcases hm with rfl | rfl <;> rcases hy with rfl | rfl <;> decide
/-- a sign 43 or 45 is read and the mark of 45 put -/
theorem QL.mn {tx : Nat → Int} {n W b B r m h i k j k2 : Nat} {σ s : am_HS} {l : List (NDn × Bool)} (q : QL tx n W b B r m h i k σ l j k2 s) {c y : Int} (hT : tkT tx n j = (3, c)) (hy : c = 45 ∧ y = 1 ∨ c = 43 ∧ y = 0) (hj : j < W) : CX tx n W b B r (uI s (6 + B) 1 (if hI s (6 + B) 1 = 1 ∨ y = 1 then 1 else 0)) ∧ CI W B j k2 (uI s (6 + B) 1 (if hI s (6 + B) 1 = 1 ∨ y = 1 then 1 else 0)) ∧ QL tx n W b B r m h i k σ l (j + 1) k2 (tnS (uI s (6 + B) 1 (if hI s (6 + B) 1 = 1 ∨ y = 1 then 1 else 0)) (j + 1)) := by
  obtain ⟨q1, q2, q3, q4, q5, q6, q7, q8, q9, q10⟩ := q
  have hB : B < 2 := by have := q1.2.2.2.1.1; omega
  obtain ⟨w, hw⟩ : ∃ w : Int, w = if hI s (6 + B) 1 = 1 ∨ y = 1 then 1 else 0 := ⟨_, rfl⟩
  rw [← hw]
  have hm := q9.1
  have hw2 : (w = 1 ∧ (hI s (6 + B) 1 = 1 ∨ y = 1)) ∨ (w = 0 ∧ ¬ (hI s (6 + B) 1 = 1 ∨ y = 1)) := by
    by_cases z : hI s (6 + B) 1 = 1 ∨ y = 1
    · rw [if_pos z] at hw; exact Or.inl ⟨hw, z⟩
    · rw [if_neg z] at hw; exact Or.inr ⟨hw, z⟩
  clear hw
  have hf : ∀ c, CF B c s (uI s (6 + B) 1 w) := fun c => (CF.rf B c s).u (by unfold cfP; omega)
  have x1 : CX tx n W b B r (uI s (6 + B) 1 w) := q1.of (hf 0)
  have x2 : CI W B j k2 (uI s (6 + B) 1 w) := by
    obtain ⟨i1, i2, i3, i4, i5, i6⟩ := q4
    refine ⟨?_, ?_, ?_, ?_, i5, ?_⟩
    · rw [hI_uI_n (by omega)]; exact i1
    · rw [hI_uI_n (by omega), hI_uI_n (by omega)]; exact i2
    · rw [hI_uI_n (by omega), hI_uI_n (by omega)]; exact i3
    · rw [hI_uI_n (by omega)]; exact i4
    · rw [hI_uI_n (by omega)]; exact i6
  have hcd : cdT (uI s (6 + B) 1 w) B = cdT s B := by
    funext x
    unfold cdT
    rw [hI_uI_n (by omega), hI_uI_n (by omega), hI_uI_n (by omega)]
  obtain ⟨t1, t2, t3⟩ := tn_ok x1 x2 hj
  have hmw : hI (tnS (uI s (6 + B) 1 w) (j + 1)) (6 + B) 1 = w := by
    rw [tnS_o (by omega), hI_uI_e ⟨by omega, by omega⟩]
  refine ⟨x1, x2, t1, (q2.tr (hf k) (by omega)).tr (t3 k) (by omega), by omega, t2, q5, by omega, ?_, ?_, ?_, ?_⟩
  · rw [cdT_tn hB, hcd]; exact q7
  · rw [cdT_tn hB, hcd]; exact q8.app (NmP.skip (Or.inl (by rw [hT]; show (3 : Int) ≠ 2; decide))) (by omega) (by omega) (by omega) (by omega)
  · refine ⟨by rw [hmw]; omega, ?_⟩
    rw [hmw]
    have g := q9.2
    constructor
    · intro z
      rcases hy with ⟨y1, y2⟩ | ⟨y1, y2⟩
      · exact Or.inr ⟨j, by omega, by omega, by rw [hT, y1]⟩
      · have z2 : hI s (6 + B) 1 ≠ 0 := by clear g; omega
        rcases g.1 z2 with a | ⟨x, a1, a2, a3⟩
        · exact Or.inl a
        · exact Or.inr ⟨x, a1, by omega, a3⟩
    · intro z
      have key : hI s (6 + B) 1 ≠ 0 ∨ c = 45 := by
        rcases z with a | ⟨x, a1, a2, a3⟩
        · exact Or.inl (g.2 (Or.inl a))
        · rcases Nat.lt_or_ge x j with u | u
          · exact Or.inl (g.2 (Or.inr ⟨x, a1, u, a3⟩))
          · rw [show x = j by omega, hT] at a3
            exact Or.inr (congrArg Prod.snd a3)
      clear g z
      omega
  · rw [tnS_o (by omega), hI_uI_n (by omega)]; exact q10
theorem cc1_sumL {d : Nat} (hd : 2 ≤ d) {tx : Nat → Int} {n W b B r h : Nat} {dp : Int} {prod : Nat → PR} (hpr : KOK tx n W b B r 1 h d mX1_readProduct dp prod) {i k : Nat} {σ : am_HS} (hk : k ≤ 2 * i) : ∀ (m : Nat) (l : List (NDn × Bool)) (j k2 x : Nat) (s : am_HS) (o3 : Option am_V), QL tx n W b B r 2 (h + 1) i k σ l j k2 s → W < m + j → x ≤ j → am_Go lc d 1 4 0 cX1_readSum 21 [some (vR (some 4)), some (vI dp), some (vI (x : Int)), o3] [] s (qV fun u => QD tx n W b B r 0 (h + 1) i k σ (pLS prod (tkT tx n) m l j) u) := by
  intro m
  induction m with
  | zero =>
    intro l j k2 x s o3 q hw hxj
    have := q.2.2.2.1.2.2.2.2.1
    omega
  | succ m ih =>
    intro l j k2 x s o3 q hw hxj
    have hx := q.1
    have hi := q.2.2.2.1
    have q6 := q.2.2.2.2.2.1
    have q3 := q.2.2.1
    have q5 := q.2.2.2.2.1
    have hmn := q.2.2.2.2.2.2.2.2.1.1
    obtain ⟨hf, hN, x3, ⟨xb, xr, xW⟩, x5⟩ := id hx
    obtain ⟨i1, i2, i3, i4, i5, i6⟩ := id hi
    have hB : B < 2 := by omega
    have hb1 : B < 2 := hB
    have hrB : cH b 4 2 = some (6 + B) := by
      show some (7 - b) = some (6 + B)
      rw [show 7 - b = 6 + B by omega]
    obtain ⟨a, v, hT⟩ : ∃ a v, tkT tx n j = (a, v) := ⟨_, _, rfl⟩
    have K := kn_r (hT ▸ CI.kn hx hi)
    have hlt : a ≠ 0 → j < W := fun z => CI.lt hx hi (by rw [hT]; exact z)
    have hpx : ∀ y : Int, (a, v) = (3, y) → a = 3 ∧ v = y := fun y w => ⟨congrArg Prod.fst w, congrArg Prod.snd w⟩
    have hW0 : j = W → a = 0 := fun z => by
      rw [← z, hT] at x5
      exact x5
    have e0 : pLS prod (tkT tx n) (m + 1) l j = if tkT tx n j = (3, 43) ∨ tkT tx n j = (3, 45) then (match prod (j + 1) with
        | .inl f => .inl f
        | .inr q => pLS prod (tkT tx n) m (l ++ [(q.1, decide (tkT tx n j = (3, 45)))]) q.2) else .inr (cmbL 2 0 l, j) := rfl
    refine g_iload_n dX1_readSum_21 rfl ?_
    refine g_sipush dX1_readSum_22 (by decide) ?_
    refine g_icmp_ge (tgt := 119) dX1_readSum_25 (by decide) (fun c25 => ?_) (fun c25 => ?_)
    · refine g_return dX1_readSum_119 rfl ⟨rfl, ?_⟩
      have hno : ¬ (tkT tx n j = (3, 43) ∨ tkT tx n j = (3, 45)) := fun w => by
        rw [hT] at w
        rcases w with w | w
        · have := hpx 43 w
          omega
        · have := hpx 45 w
          omega
      rw [e0, if_neg hno]
      exact QL.qd ⟨q.1, q.2.1, q3, hi, q5, q6, Cd.sE q.2.2.2.2.2.2.1, q.2.2.2.2.2.2.2⟩
    · refine g_aload_n dX1_readSum_28 rfl ?_
      refine g_getI dX1_readSum_29 tf_1_32 rfl rfl ?_
      refine g_if_ge (tgt := 119) dX1_readSum_32 (by decide) (fun c32 => ?_) (fun c32 => ?_)
      · exfalso; omega
      · refine g_aload_n dX1_readSum_35 rfl ?_
        refine g_getI dX1_readSum_36 tf_1_49 rfl rfl ?_
        refine g_bipush dX1_readSum_39 (by decide) ?_
        refine g_icmp_eq (tgt := 53) dX1_readSum_41 (by decide) (fun c41 => ?_) (fun c41 => ?_)
        · refine g_aload_n dX1_readSum_53 rfl ?_
          refine g_getI dX1_readSum_54 tf_1_49 rfl rfl ?_
          refine g_bipush dX1_readSum_57 (by decide) ?_
          refine g_icmp_ne (tgt := 66) dX1_readSum_59 (by decide) (fun c59 => ?_) (fun c59 => ?_)
          · refine g_iconst dX1_readSum_66 ⟨by decide, by decide⟩ ?_
            refine g_istore_n dX1_readSum_67 (by decide) rfl ?_
            exfalso; omega
          · refine g_iconst dX1_readSum_62 ⟨by decide, by decide⟩ ?_
            refine g_goto (tgt := 67) dX1_readSum_63 (by decide) ?_
            refine g_istore_n dX1_readSum_67 (by decide) rfl ?_
            have hT2 : tkT tx n j = (3, 43) := by rw [hT, show a = 3 by omega, show v = 43 by omega]
            have hjW := hlt (by omega)
            obtain ⟨m1, m2, Q1⟩ := QL.mn q (y := 0) hT2 (by omega) hjW
            rw [if_pos (Or.inl hT2), show decide (tkT tx n j = (3, 45)) = false by rw [hT2]; decide] at e0
            refine g_aload_n dX1_readSum_68 rfl ?_
            refine g_getA dX1_readSum_69 tf_1_18 rfl rfl (crf hf hrB) ?_
            refine g_dup dX1_readSum_72 rfl ?_
            refine g_getZ dX1_readSum_73 tf_1_88 (lc_b hb1) rfl ?_
            refine g_iload_n dX1_readSum_76 rfl ?_
            refine g_iconst dX1_readSum_77 ⟨by decide, by decide⟩ ?_
            refine g_icmp_ne (tgt := 85) dX1_readSum_78 (by decide) (fun c78 => ?_) (fun c78 => ?_)
            · refine g_iconst dX1_readSum_85 ⟨by decide, by decide⟩ ?_
              refine g_ior dX1_readSum_86 (or01 hmn (by first | exact Or.inl rfl | exact Or.inr rfl)) ?_
              refine g_putZ dX1_readSum_87 tf_1_88 (lc_b hb1) rfl rfl (by split <;> omega) ?_
              refine g_aload_n dX1_readSum_90 rfl ?_
              refine g_aload_n dX1_readSum_91 rfl ?_
              refine g_getI dX1_readSum_92 tf_1_49 rfl rfl ?_
              refine g_callvV dX1_readSum_95 tm_1_65 rfl ⟨rfl, rfl⟩ rfl (Nat.le_of_ble_eq_true rfl) (take_ok (by omega) _ m1 m2 _ (fun _ => hjW)) (fun s95 h95 => ?_)
              have e95 := h95.1 rfl
              clear h95
              subst e95
              refine g_aload_n dX1_readSum_98 rfl ?_
              refine g_iload_n dX1_readSum_99 rfl ?_
              refine g_callvV dX1_readSum_100 tm_1_85 rfl ⟨rfl, rfl⟩ rfl (Nat.le_of_ble_eq_true rfl) (hpr (j + 1) k2 _ Q1.1 Q1.2.2.2.1 (Q1.2.2.2.2.2.2.2.2.1.1) (by omega)) (fun s100 h100 => ?_)
              rcases hres : prod (j + 1) with f | ⟨e, j3⟩
              · rw [hres] at h100 e0
                rw [e0]
                refine g_aload_n dX1_readSum_103 rfl ?_
                refine g_getA dX1_readSum_104 tf_1_18 rfl rfl (crf h100.1.1 hrB) ?_
                refine g_iload_n dX1_readSum_107 rfl ?_
                refine g_iconst dX1_readSum_108 ⟨by decide, by decide⟩ ?_
                refine g_iconst dX1_readSum_109 ⟨by decide, by decide⟩ ?_
                refine g_callvV dX1_readSum_110 tm_1_92 rfl ⟨rfl, rfl⟩ (lc_b hb1) (Nat.le_of_ble_eq_true rfl) (cc0_addF (by omega) s100 h100.1 h100.2.2 _ _ _) (fun s110 h110 => ?_)
                obtain ⟨g1, g2, g3⟩ := h110
                have hft : 0 ≤ hI s110 4 9 := by have := g2.1; omega
                refine g_iinc dX1_readSum_113 (by decide) rfl ⟨by omega, by omega⟩ rfl rfl ?_
                refine g_goto (tgt := 21) dX1_readSum_116 (by decide) ?_
                refine g_iload_n dX1_readSum_21 rfl ?_
                refine g_sipush dX1_readSum_22 (by decide) ?_
                refine g_icmp_ge (tgt := 119) dX1_readSum_25 (by decide) (fun c25 => ?_) (fun c25 => ?_)
                · refine g_return dX1_readSum_119 rfl ⟨rfl, ?_⟩
                  exact QD.fl g1 (((Q1.2.1.z).tr h100.2.1 (by omega)).tr g3 (by omega)) g2
                · refine g_aload_n dX1_readSum_28 rfl ?_
                  refine g_getI dX1_readSum_29 tf_1_32 rfl rfl ?_
                  refine g_if_ge (tgt := 119) dX1_readSum_32 (by decide) (fun c32 => ?_) (fun c32 => ?_)
                  · refine g_return dX1_readSum_119 rfl ⟨rfl, ?_⟩
                    exact QD.fl g1 (((Q1.2.1.z).tr h100.2.1 (by omega)).tr g3 (by omega)) g2
                  · exfalso; omega
              · rw [hres] at h100 e0
                rw [e0]
                obtain ⟨k3, p⟩ := QD.ql h100
                have p4 := p.2.2.2.1
                have p6 := p.2.2.2.2.2.1
                have p3 := p.2.2.1
                have p5 := p.2.2.2.2.1
                have pW := p4.2.2.2.2.1
                obtain ⟨g1, g2, g3, g4, g5, g6, g7, g8, g9, g10, g11⟩ := QL.part Q1 p
                refine g_aload_n dX1_readSum_103 rfl ?_
                refine g_getA dX1_readSum_104 tf_1_18 rfl rfl (crf p.1.1 hrB) ?_
                refine g_iload_n dX1_readSum_107 rfl ?_
                refine g_iconst dX1_readSum_108 ⟨by decide, by decide⟩ ?_
                refine g_iconst dX1_readSum_109 ⟨by decide, by decide⟩ ?_
                refine g_callvV dX1_readSum_110 tm_1_92 rfl ⟨rfl, rfl⟩ (lc_b hb1) (Nat.le_of_ble_eq_true rfl) (cc0_add (by omega) s100 p.1.1 hB r k3 p.1.2.1 (by omega) p4.2.2.2.2.2 (by omega) _ _ _) (fun s110 h110 => ?_)
                subst h110
                refine g_iinc dX1_readSum_113 (by decide) rfl ⟨by omega, by omega⟩ (show (x : Int) + 1 = ((x + 1 : Nat) : Int) from by omega) rfl ?_
                refine g_goto (tgt := 21) dX1_readSum_116 (by decide) ?_
                exact ih _ _ (k3 + 1) (x + 1) _ _ (QZ.add g1 g2 g3 g4 g5 (by omega) g9 g10 hk ⟨by decide, by decide⟩ ⟨by decide, by decide⟩ ⟨by decide, by decide⟩ (by decide) (fun c hc1 hc2 => Cd.sT (mi := false) (g7.congr (fun y y1 y2 => hc1 y y1 (by omega))) (g8.congr (fun y y1 y2 => hc1 y (by omega) y2)) hc2)) (by omega) (by omega)
            · exfalso; omega
        · refine g_aload_n dX1_readSum_44 rfl ?_
          refine g_getI dX1_readSum_45 tf_1_49 rfl rfl ?_
          refine g_bipush dX1_readSum_48 (by decide) ?_
          refine g_icmp_ne (tgt := 119) dX1_readSum_50 (by decide) (fun c50 => ?_) (fun c50 => ?_)
          · refine g_return dX1_readSum_119 rfl ⟨rfl, ?_⟩
            have hno : ¬ (tkT tx n j = (3, 43) ∨ tkT tx n j = (3, 45)) := fun w => by
              rw [hT] at w
              rcases w with w | w
              · have := hpx 43 w
                omega
              · have := hpx 45 w
                omega
            rw [e0, if_neg hno]
            exact QL.qd ⟨q.1, q.2.1, q3, hi, q5, q6, Cd.sE q.2.2.2.2.2.2.1, q.2.2.2.2.2.2.2⟩
          · refine g_aload_n dX1_readSum_53 rfl ?_
            refine g_getI dX1_readSum_54 tf_1_49 rfl rfl ?_
            refine g_bipush dX1_readSum_57 (by decide) ?_
            refine g_icmp_ne (tgt := 66) dX1_readSum_59 (by decide) (fun c59 => ?_) (fun c59 => ?_)
            · refine g_iconst dX1_readSum_66 ⟨by decide, by decide⟩ ?_
              refine g_istore_n dX1_readSum_67 (by decide) rfl ?_
              have hT2 : tkT tx n j = (3, 45) := by rw [hT, show a = 3 by omega, show v = 45 by omega]
              have hjW := hlt (by omega)
              obtain ⟨m1, m2, Q1⟩ := QL.mn q (y := 1) hT2 (by omega) hjW
              rw [if_pos (Or.inr hT2), show decide (tkT tx n j = (3, 45)) = true by rw [hT2]; decide] at e0
              refine g_aload_n dX1_readSum_68 rfl ?_
              refine g_getA dX1_readSum_69 tf_1_18 rfl rfl (crf hf hrB) ?_
              refine g_dup dX1_readSum_72 rfl ?_
              refine g_getZ dX1_readSum_73 tf_1_88 (lc_b hb1) rfl ?_
              refine g_iload_n dX1_readSum_76 rfl ?_
              refine g_iconst dX1_readSum_77 ⟨by decide, by decide⟩ ?_
              refine g_icmp_ne (tgt := 85) dX1_readSum_78 (by decide) (fun c78 => ?_) (fun c78 => ?_)
              · exfalso; omega
              · refine g_iconst dX1_readSum_81 ⟨by decide, by decide⟩ ?_
                refine g_goto (tgt := 86) dX1_readSum_82 (by decide) ?_
                refine g_ior dX1_readSum_86 (or01 hmn (by first | exact Or.inl rfl | exact Or.inr rfl)) ?_
                refine g_putZ dX1_readSum_87 tf_1_88 (lc_b hb1) rfl rfl (by split <;> omega) ?_
                refine g_aload_n dX1_readSum_90 rfl ?_
                refine g_aload_n dX1_readSum_91 rfl ?_
                refine g_getI dX1_readSum_92 tf_1_49 rfl rfl ?_
                refine g_callvV dX1_readSum_95 tm_1_65 rfl ⟨rfl, rfl⟩ rfl (Nat.le_of_ble_eq_true rfl) (take_ok (by omega) _ m1 m2 _ (fun _ => hjW)) (fun s95 h95 => ?_)
                have e95 := h95.1 rfl
                clear h95
                subst e95
                refine g_aload_n dX1_readSum_98 rfl ?_
                refine g_iload_n dX1_readSum_99 rfl ?_
                refine g_callvV dX1_readSum_100 tm_1_85 rfl ⟨rfl, rfl⟩ rfl (Nat.le_of_ble_eq_true rfl) (hpr (j + 1) k2 _ Q1.1 Q1.2.2.2.1 (Q1.2.2.2.2.2.2.2.2.1.1) (by omega)) (fun s100 h100 => ?_)
                rcases hres : prod (j + 1) with f | ⟨e, j3⟩
                · rw [hres] at h100 e0
                  rw [e0]
                  refine g_aload_n dX1_readSum_103 rfl ?_
                  refine g_getA dX1_readSum_104 tf_1_18 rfl rfl (crf h100.1.1 hrB) ?_
                  refine g_iload_n dX1_readSum_107 rfl ?_
                  refine g_iconst dX1_readSum_108 ⟨by decide, by decide⟩ ?_
                  refine g_iconst dX1_readSum_109 ⟨by decide, by decide⟩ ?_
                  refine g_callvV dX1_readSum_110 tm_1_92 rfl ⟨rfl, rfl⟩ (lc_b hb1) (Nat.le_of_ble_eq_true rfl) (cc0_addF (by omega) s100 h100.1 h100.2.2 _ _ _) (fun s110 h110 => ?_)
                  obtain ⟨g1, g2, g3⟩ := h110
                  have hft : 0 ≤ hI s110 4 9 := by have := g2.1; omega
                  refine g_iinc dX1_readSum_113 (by decide) rfl ⟨by omega, by omega⟩ rfl rfl ?_
                  refine g_goto (tgt := 21) dX1_readSum_116 (by decide) ?_
                  refine g_iload_n dX1_readSum_21 rfl ?_
                  refine g_sipush dX1_readSum_22 (by decide) ?_
                  refine g_icmp_ge (tgt := 119) dX1_readSum_25 (by decide) (fun c25 => ?_) (fun c25 => ?_)
                  · refine g_return dX1_readSum_119 rfl ⟨rfl, ?_⟩
                    exact QD.fl g1 (((Q1.2.1.z).tr h100.2.1 (by omega)).tr g3 (by omega)) g2
                  · refine g_aload_n dX1_readSum_28 rfl ?_
                    refine g_getI dX1_readSum_29 tf_1_32 rfl rfl ?_
                    refine g_if_ge (tgt := 119) dX1_readSum_32 (by decide) (fun c32 => ?_) (fun c32 => ?_)
                    · refine g_return dX1_readSum_119 rfl ⟨rfl, ?_⟩
                      exact QD.fl g1 (((Q1.2.1.z).tr h100.2.1 (by omega)).tr g3 (by omega)) g2
                    · exfalso; omega
                · rw [hres] at h100 e0
                  rw [e0]
                  obtain ⟨k3, p⟩ := QD.ql h100
                  have p4 := p.2.2.2.1
                  have p6 := p.2.2.2.2.2.1
                  have p3 := p.2.2.1
                  have p5 := p.2.2.2.2.1
                  have pW := p4.2.2.2.2.1
                  obtain ⟨g1, g2, g3, g4, g5, g6, g7, g8, g9, g10, g11⟩ := QL.part Q1 p
                  refine g_aload_n dX1_readSum_103 rfl ?_
                  refine g_getA dX1_readSum_104 tf_1_18 rfl rfl (crf p.1.1 hrB) ?_
                  refine g_iload_n dX1_readSum_107 rfl ?_
                  refine g_iconst dX1_readSum_108 ⟨by decide, by decide⟩ ?_
                  refine g_iconst dX1_readSum_109 ⟨by decide, by decide⟩ ?_
                  refine g_callvV dX1_readSum_110 tm_1_92 rfl ⟨rfl, rfl⟩ (lc_b hb1) (Nat.le_of_ble_eq_true rfl) (cc0_add (by omega) s100 p.1.1 hB r k3 p.1.2.1 (by omega) p4.2.2.2.2.2 (by omega) _ _ _) (fun s110 h110 => ?_)
                  subst h110
                  refine g_iinc dX1_readSum_113 (by decide) rfl ⟨by omega, by omega⟩ (show (x : Int) + 1 = ((x + 1 : Nat) : Int) from by omega) rfl ?_
                  refine g_goto (tgt := 21) dX1_readSum_116 (by decide) ?_
                  exact ih _ _ (k3 + 1) (x + 1) _ _ (QZ.add g1 g2 g3 g4 g5 (by omega) g9 g10 hk ⟨by decide, by decide⟩ ⟨by decide, by decide⟩ ⟨by decide, by decide⟩ (by decide) (fun c hc1 hc2 => Cd.sT (mi := true) (g7.congr (fun y y1 y2 => hc1 y y1 (by omega))) (g8.congr (fun y y1 y2 => hc1 y (by omega) y2)) hc2)) (by omega) (by omega)
            · refine g_iconst dX1_readSum_62 ⟨by decide, by decide⟩ ?_
              refine g_goto (tgt := 67) dX1_readSum_63 (by decide) ?_
              refine g_istore_n dX1_readSum_67 (by decide) rfl ?_
              exfalso; omega
