/-! THE CLASS: readCall -/
theorem cc1_callF4 {d : Nat} (hd : 2 ≤ d) {tx : Nat → Int} {n W b B r m h i k f : Nat} {x1 dp l3 v c : Int} {σ : am_HS} (s : am_HS) (hx : CX tx n W b B r s) (hF : FlQ tx n B f s) (hσ : CF B 0 σ s) : am_Go lc d 1 6 0 cX1_readCall 104 [some (vR (some 4)), some (vI x1), some (vI dp), some (vI l3), some (vI v), some (vI c)] [] s (qV fun u => QD tx n W b B r m h i k σ (.inl f) u) := by
  have hf := hx.1
  have xb : b + B = 1 := hx.2.2.2.1.1
  have hB : B < 2 := by omega
  have hb1 : B < 2 := hB
  have hrB : cH b 4 2 = some (6 + B) := by
    show some (7 - b) = some (6 + B)
    rw [show 7 - b = 6 + B by omega]
  have hft : 0 ≤ hI s 4 9 := by have := hF.1; omega
  refine g_iload_n dX1_readCall_104 rfl ?_
  refine g_if_eq (tgt := 127) dX1_readCall_105 (by decide) (fun c105 => ?_) (fun c105 => ?_)
  · refine g_aload_n dX1_readCall_127 rfl ?_
    refine g_bipush dX1_readCall_128 (by decide) ?_
    refine g_callvV dX1_readCall_130 tm_1_65 rfl ⟨rfl, rfl⟩ rfl (Nat.le_of_ble_eq_true rfl) (cc1_takeN (by omega) s hft _) (fun s130 h130 => ?_)
    rw [h130]
    refine g_aload_n dX1_readCall_133 rfl ?_
    refine g_getA dX1_readCall_134 tf_1_18 rfl rfl (crf hf hrB) ?_
    refine g_iload_n dX1_readCall_137 rfl ?_
    refine g_iload dX1_readCall_138 rfl ?_
    refine g_iload dX1_readCall_140 rfl ?_
    refine g_callvV dX1_readCall_142 tm_1_92 rfl ⟨rfl, rfl⟩ (lc_b hb1) (Nat.le_of_ble_eq_true rfl) (cc0_addF (by omega) s hx hF _ _ _) (fun s142 h142 => ?_)
    refine g_return dX1_readCall_145 rfl ⟨rfl, ?_⟩
    exact QD.fl h142.1 (hσ.tr h142.2.2 (by omega)) h142.2.1
  · refine g_aload_n dX1_readCall_108 rfl ?_
    refine g_bipush dX1_readCall_109 (by decide) ?_
    refine g_callvV dX1_readCall_111 tm_1_65 rfl ⟨rfl, rfl⟩ rfl (Nat.le_of_ble_eq_true rfl) (cc1_takeN (by omega) s hft _) (fun s111 h111 => ?_)
    rw [h111]
    refine g_aload_n dX1_readCall_114 rfl ?_
    refine g_getI dX1_readCall_115 tf_1_52 rfl rfl ?_
    refine g_istore dX1_readCall_118 (by decide) rfl ?_
    refine g_aload_n dX1_readCall_120 rfl ?_
    refine g_sipush dX1_readCall_121 (by decide) ?_
    refine g_callvV dX1_readCall_124 tm_1_65 rfl ⟨rfl, rfl⟩ rfl (Nat.le_of_ble_eq_true rfl) (cc1_takeN (by omega) s hft _) (fun s124 h124 => ?_)
    rw [h124]
    refine g_aload_n dX1_readCall_127 rfl ?_
    refine g_bipush dX1_readCall_128 (by decide) ?_
    refine g_callvV dX1_readCall_130 tm_1_65 rfl ⟨rfl, rfl⟩ rfl (Nat.le_of_ble_eq_true rfl) (cc1_takeN (by omega) s hft _) (fun s130 h130 => ?_)
    rw [h130]
    refine g_aload_n dX1_readCall_133 rfl ?_
    refine g_getA dX1_readCall_134 tf_1_18 rfl rfl (crf hf hrB) ?_
    refine g_iload_n dX1_readCall_137 rfl ?_
    refine g_iload dX1_readCall_138 rfl ?_
    refine g_iload dX1_readCall_140 rfl ?_
    refine g_callvV dX1_readCall_142 tm_1_92 rfl ⟨rfl, rfl⟩ (lc_b hb1) (Nat.le_of_ble_eq_true rfl) (cc0_addF (by omega) s hx hF _ _ _) (fun s142 h142 => ?_)
    refine g_return dX1_readCall_145 rfl ⟨rfl, ?_⟩
    exact QD.fl h142.1 (hσ.tr h142.2.2 (by omega)) h142.2.1
theorem cc1_callF {d : Nat} (hd : 2 ≤ d) {tx : Nat → Int} {n W b B r m h i k f : Nat} {x1 dp l3 v c : Int} {σ : am_HS} (s : am_HS) (hx : CX tx n W b B r s) (hF : FlQ tx n B f s) (hσ : CF B 0 σ s) : am_Go lc d 1 6 0 cX1_readCall 58 [some (vR (some 4)), some (vI x1), some (vI dp), some (vI l3), some (vI v), some (vI c)] [] s (qV fun u => QD tx n W b B r m h i k σ (.inl f) u) := by
  have hft : 0 ≤ hI s 4 9 := by have := hF.1; omega
  refine g_iload_n dX1_readCall_58 rfl ?_
  refine g_if_ne (tgt := 104) dX1_readCall_59 (by decide) (fun c59 => ?_) (fun c59 => ?_)
  · exact cc1_callF4 hd s hx hF hσ
  · refine g_iload dX1_readCall_62 rfl ?_
    refine g_bipush dX1_readCall_64 (by decide) ?_
    refine g_icmp_ge (tgt := 104) dX1_readCall_66 (by decide) (fun c66 => ?_) (fun c66 => ?_)
    · exact cc1_callF4 hd s hx hF hσ
    · refine g_aload_n dX1_readCall_69 rfl ?_
      refine g_getI dX1_readCall_70 tf_1_32 rfl rfl ?_
      refine g_if_ge (tgt := 104) dX1_readCall_73 (by decide) (fun c73 => ?_) (fun c73 => ?_)
      · exact cc1_callF4 hd s hx hF hσ
      · exfalso; omega
theorem cc1_callE {d : Nat} (hd : 2 ≤ d) {tx : Nat → Int} {n W b B r h i k j k2 : Nat} {dp v w : Int} {op : Int} {o3 : Option am_V} {l : List (NDn × Bool)} {σ : am_HS} (s : am_HS) (q : QL tx n W b B r 4 h i k σ l j k2 s) (hk : k ≤ 2 * i) (hop : 4 ≤ op ∧ op ≤ 10) (hv : rI v) (hl : l.length ≤ 10) (h9 : 9 ≤ op → l.length = 1) (hw : (7 ≤ op → w = v) ∧ (op < 7 → w = 0) ∧ 0 ≤ w ∧ w ≤ 9999) : am_Go lc d 1 6 0 cX1_readCall 127 [some (vR (some 4)), some (vI (op + 2)), some (vI dp), o3, some (vI v), some (vI ((l.length : Nat) : Int))] [] s (qV fun u => QD tx n W b B r 0 h i k σ (if tkT tx n j = (3, 41) then .inr (cmbL op w l, j + 1) else .inl j) u) := by
  have hx := q.1
  have hi := q.2.2.2.1
  have q6 := q.2.2.2.2.2.1
  have q3 := q.2.2.1
  have q5 := q.2.2.2.2.1
  have i5 := hi.2.2.2.2.1
  have xW : W ≤ 600 := hx.2.2.2.1.2.2
  have xr : r < 12 := hx.2.2.2.1.2.1
  have hf := hx.1
  have xb : b + B = 1 := hx.2.2.2.1.1
  have hB : B < 2 := by omega
  have hb1 : B < 2 := hB
  have hrB : cH b 4 2 = some (6 + B) := by
    show some (7 - b) = some (6 + B)
    rw [show 7 - b = 6 + B by omega]
  obtain ⟨a, v2, hT⟩ : ∃ a v2, tkT tx n j = (a, v2) := ⟨_, _, rfl⟩
  have K := kn_r (hT ▸ CI.kn hx hi)
  have hlt : a ≠ 0 → j < W := fun z => CI.lt hx hi (by rw [hT]; exact z)
  have hpx : ∀ y : Int, (a, v2) = (3, y) → a = 3 ∧ v2 = y := fun y w => ⟨congrArg Prod.fst w, congrArg Prod.snd w⟩
  refine g_aload_n dX1_readCall_127 rfl ?_
  refine g_bipush dX1_readCall_128 (by decide) ?_
  refine g_callvV dX1_readCall_130 tm_1_65 rfl ⟨rfl, rfl⟩ rfl (Nat.le_of_ble_eq_true rfl) (take_ok (by omega) s hx hi _ (fun _ => hlt (by omega))) (fun s130 h130 => ?_)
  by_cases h41 : hI s 4 7 = 41
  · have hT2 : tkT tx n j = (3, 41) := by rw [hT, show a = 3 by omega, show v2 = 41 by omega]
    have Q1 := QL.tok q (Or.inl (by rw [hT2]; show (3 : Int) ≠ 2; decide)) (fun w => by rw [hT2] at w; exact absurd (congrArg Prod.snd w) (by show ¬ (41 : Int) = 45; decide)) (hlt (by omega))
    rw [← h130.1 h41] at Q1
    rw [if_pos hT2]
    have Q2 := QL.add (m2 := 0) (h2 := h) (l2 := [(cmbL op w l, false)]) Q1 hk (by omega) (op := op + 2) (ar := v) (ta := ((l.length : Nat) : Int)) ⟨by omega, by omega⟩ hv ⟨by omega, by omega⟩ (by omega) (fun c _ hc2 hc3 => Cd.cE hc3 hc2 hop hl h9 hw)
    clear h130
    refine g_aload_n dX1_readCall_133 rfl ?_
    refine g_getA dX1_readCall_134 tf_1_18 rfl rfl (crf Q1.1.1 hrB) ?_
    refine g_iload_n dX1_readCall_137 rfl ?_
    refine g_iload dX1_readCall_138 rfl ?_
    refine g_iload dX1_readCall_140 rfl ?_
    refine g_callvV dX1_readCall_142 tm_1_92 rfl ⟨rfl, rfl⟩ (lc_b hb1) (Nat.le_of_ble_eq_true rfl) (cc0_add (by omega) s130 Q1.1.1 hB r k2 Q1.1.2.1 (by omega) Q1.2.2.2.1.2.2.2.2.2 (by omega) _ _ _) (fun s142 h142 => ?_)
    subst h142
    refine g_return dX1_readCall_145 rfl ⟨rfl, ?_⟩
    exact QL.qd Q2
  · have hT2 : ¬ tkT tx n j = (3, 41) := fun w => by
      rw [hT] at w
      have := hpx 41 w
      omega
    rw [if_neg hT2]
    obtain ⟨f1, f2, f3, f4⟩ := fl_ok hx hi (by omega)
    rw [← h130.2 h41] at f2 f3 f4
    clear f1 h130
    refine g_aload_n dX1_readCall_133 rfl ?_
    refine g_getA dX1_readCall_134 tf_1_18 rfl rfl (crf f2.1 hrB) ?_
    refine g_iload_n dX1_readCall_137 rfl ?_
    refine g_iload dX1_readCall_138 rfl ?_
    refine g_iload dX1_readCall_140 rfl ?_
    refine g_callvV dX1_readCall_142 tm_1_92 rfl ⟨rfl, rfl⟩ (lc_b hb1) (Nat.le_of_ble_eq_true rfl) (cc0_addF (by omega) s130 f2 f3 _ _ _) (fun s142 h142 => ?_)
    refine g_return dX1_readCall_145 rfl ⟨rfl, ?_⟩
    exact QD.fl h142.1 ((q.2.1.z.tr (f4 0) (by omega)).tr h142.2.2 (by omega)) h142.2.1
theorem cc1_callL {d : Nat} (hd : 2 ≤ d) {tx : Nat → Int} {n W b B r h : Nat} {dp v num op : Int} {sum : Nat → PR} (hsm : KOK tx n W b B r 0 h d mX1_readSum (dp + 1) sum) {i k : Nat} {σ : am_HS} (hk : k ≤ 2 * i) (hdp : 0 ≤ dp ∧ dp < 8) (hop : 4 ≤ op ∧ op < 9) (hv : rI v) (hw : (7 ≤ op → num = v) ∧ (op < 7 → num = 0) ∧ 0 ≤ num ∧ num ≤ 9999) : ∀ (m : Nat) (l : List (NDn × Bool)) (j k2 : Nat) (s : am_HS), QL tx n W b B r 4 (h + 10) i k σ l j k2 s → W < m + j → l.length ≤ 10 → am_Go lc d 1 6 0 cX1_readCall 58 [some (vR (some 4)), some (vI (op + 2)), some (vI dp), some (vI 0), some (vI v), some (vI ((l.length : Nat) : Int))] [] s (qV fun u => QD tx n W b B r 0 (h + 10) i k σ (pLC sum (tkT tx n) op num m l j) u) := by
  intro m
  induction m with
  | zero =>
    intro l j k2 s q hw2 _
    have := q.2.2.2.1.2.2.2.2.1
    omega
  | succ m ih =>
    intro l j k2 s q hw2 hl
    have hx := q.1
    have hi := q.2.2.2.1
    have i4 := hi.2.2.2.1
    have q6 := q.2.2.2.2.2.1
    have q3 := q.2.2.1
    have hmn := q.2.2.2.2.2.2.2.2.1.1
    obtain ⟨a, v2, hT⟩ : ∃ a v2, tkT tx n j = (a, v2) := ⟨_, _, rfl⟩
    have K := kn_r (hT ▸ CI.kn hx hi)
    have hlt : a ≠ 0 → j < W := fun z => CI.lt hx hi (by rw [hT]; exact z)
    have hpx : ∀ y : Int, (a, v2) = (3, y) → a = 3 ∧ v2 = y := fun y w => ⟨congrArg Prod.fst w, congrArg Prod.snd w⟩
    have e0 : pLC sum (tkT tx n) op num (m + 1) l j = if tkT tx n j = (3, 44) then (if l.length = 10 then .inl j else (match sum (j + 1) with
        | .inl f => .inl f
        | .inr q => pLC sum (tkT tx n) op num m (l ++ [(q.1, false)]) q.2))
      else if tkT tx n j = (3, 41) then .inr (cmbL op num l, j + 1) else .inl j := rfl
    have hend : (hI s 4 7 ≠ 44 ∨ l.length = 10) → am_Go lc d 1 6 0 cX1_readCall 104 [some (vR (some 4)), some (vI (op + 2)), some (vI dp), some (vI 0), some (vI v), some (vI ((l.length : Nat) : Int))] [] s (qV fun u => QD tx n W b B r 0 (h + 10) i k σ (pLC sum (tkT tx n) op num (m + 1) l j) u) := fun z => by
      have e1 : pLC sum (tkT tx n) op num (m + 1) l j = if tkT tx n j = (3, 41) then .inr (cmbL op num l, j + 1) else .inl j := by
        rw [e0]
        by_cases h44 : tkT tx n j = (3, 44)
        · have h7 : hI s 4 7 = 44 := by
            rw [hT] at h44
            have := hpx 44 h44
            omega
          have h10 : l.length = 10 := by omega
          rw [if_pos h44, if_pos h10, if_neg (fun w => by rw [h44] at w; exact absurd (congrArg Prod.snd w) (by show ¬ (44 : Int) = 41; decide))]
        · rw [if_neg h44]
      rw [e1]
      refine g_iload_n dX1_readCall_104 rfl ?_
      refine g_if_eq (tgt := 127) dX1_readCall_105 (by decide) (fun c105 => ?_) (fun c105 => ?_)
      · exact cc1_callE hd s q hk ⟨hop.1, by omega⟩ hv hl (fun z => absurd z (by omega)) hw
      · exfalso; omega
    refine g_iload_n dX1_readCall_58 rfl ?_
    refine g_if_ne (tgt := 104) dX1_readCall_59 (by decide) (fun c59 => ?_) (fun c59 => ?_)
    · exfalso; omega
    · refine g_iload dX1_readCall_62 rfl ?_
      refine g_bipush dX1_readCall_64 (by decide) ?_
      refine g_icmp_ge (tgt := 104) dX1_readCall_66 (by decide) (fun c66 => ?_) (fun c66 => ?_)
      · exact hend (by omega)
      · refine g_aload_n dX1_readCall_69 rfl ?_
        refine g_getI dX1_readCall_70 tf_1_32 rfl rfl ?_
        refine g_if_ge (tgt := 104) dX1_readCall_73 (by decide) (fun c73 => ?_) (fun c73 => ?_)
        · exfalso; omega
        · refine g_aload_n dX1_readCall_76 rfl ?_
          refine g_getI dX1_readCall_77 tf_1_49 rfl rfl ?_
          refine g_bipush dX1_readCall_80 (by decide) ?_
          refine g_icmp_ne (tgt := 104) dX1_readCall_82 (by decide) (fun c82 => ?_) (fun c82 => ?_)
          · exact hend (by omega)
          · have hT2 : tkT tx n j = (3, 44) := by rw [hT, show a = 3 by omega, show v2 = 44 by omega]
            have hjW := hlt (by omega)
            have Q1 := QL.tok q (Or.inl (by rw [hT2]; show (3 : Int) ≠ 2; decide)) (fun w => by rw [hT2] at w; exact absurd (congrArg Prod.snd w) (by show ¬ (44 : Int) = 45; decide)) hjW
            rw [if_pos hT2, if_neg (show ¬ l.length = 10 by omega)] at e0
            refine g_aload_n dX1_readCall_85 rfl ?_
            refine g_bipush dX1_readCall_86 (by decide) ?_
            refine g_callvV dX1_readCall_88 tm_1_65 rfl ⟨rfl, rfl⟩ rfl (Nat.le_of_ble_eq_true rfl) (take_ok (by omega) s hx hi _ (fun _ => hjW)) (fun s88 h88 => ?_)
            have e88 := h88.1 (by omega)
            clear h88
            subst e88
            refine g_aload_n dX1_readCall_91 rfl ?_
            refine g_iload_n dX1_readCall_92 rfl ?_
            refine g_iconst dX1_readCall_93 ⟨by decide, by decide⟩ ?_
            refine g_iadd dX1_readCall_94 rfl ⟨by omega, by omega⟩ ?_
            refine g_callvV dX1_readCall_95 tm_1_68 rfl ⟨rfl, rfl⟩ rfl (Nat.le_of_ble_eq_true rfl) (hsm (j + 1) k2 _ Q1.1 Q1.2.2.2.1 (Q1.2.2.2.2.2.2.2.2.1.1) (by omega)) (fun s95 h95 => ?_)
            rcases hres : sum (j + 1) with f | ⟨e, j3⟩
            · rw [hres] at h95 e0
              rw [e0]
              refine g_iinc dX1_readCall_98 (by decide) rfl ⟨by omega, by omega⟩ rfl rfl ?_
              refine g_goto (tgt := 58) dX1_readCall_101 (by decide) ?_
              exact cc1_callF hd s95 h95.1 h95.2.2 ((Q1.2.1.z).tr h95.2.1 (by omega))
            · rw [hres] at h95 e0
              rw [e0]
              obtain ⟨k3, p⟩ := QD.ql h95
              obtain ⟨g1, g2, g3, g4, g5, g6, g7, g8, g9, g10, g11⟩ := QL.part Q1 p
              have p3 := p.2.2.1
              have Q3 : QL tx n W b B r 4 (h + 10) i k σ (l ++ [(e, false)]) j3 k3 s95 := ⟨g1, g2, g3, g4, g5, by omega, Cd.cT g7 g8 (by omega), g9, g10, g11⟩
              refine g_iinc dX1_readCall_98 (by decide) rfl ⟨by omega, by omega⟩ (show ((l.length : Nat) : Int) + 1 = (((l ++ [(e, false)]).length : Nat) : Int) from by rw [List.length_append]; rfl) rfl ?_
              refine g_goto (tgt := 58) dX1_readCall_101 (by decide) ?_
              exact ih _ _ _ _ Q3 (by omega) (by rw [List.length_append]; show l.length + 1 ≤ 10; omega)
