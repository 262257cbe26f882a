/-! THE CLASS: readCall, the walk -/
theorem cc1_callF2 {d : Nat} (hd : 2 ≤ d) {tx : Nat → Int} {n W b B r m h i k f : Nat} {x1 dp l3 v c : Int} {σ : am_HS} (s : am_HS) (hx : CX tx n W b B r s) (hF : FlQ tx n B f s) (hσ : CF B 0 σ s) : am_Go lc d 1 6 0 cX1_readCall 127 [some (vR (some 4)), some (vI x1), some (vI dp), some (vI l3), some (vI v), some (vI c)] [] s (qV fun u => QD tx n W b B r m h i k σ (.inl f) u) := by
  have hf := hx.1
  have xb : b + B = 1 := hx.2.2.2.1.1
  have hB : B < 2 := by omega
  have hb1 : B < 2 := hB
  have hrB : cH b 4 2 = some (6 + B) := by
    show some (7 - b) = some (6 + B)
    rw [show 7 - b = 6 + B by omega]
  have hft : 0 ≤ hI s 4 9 := by have := hF.1; omega
  refine g_aload_n dX1_readCall_127 rfl ?_
  refine g_bipush dX1_readCall_128 (by decide) ?_
  refine g_callvV dX1_readCall_130 tm_1_65 rfl ⟨rfl, rfl⟩ rfl (Nat.le_of_ble_eq_true rfl) (cc1_takeN (by omega) s hft _) (fun s130 h130 => ?_)
  rw [h130]
  refine g_aload_n dX1_readCall_133 rfl ?_
  refine g_getA dX1_readCall_134 tf_1_18 rfl rfl (crf hf hrB) ?_
  refine g_iload_n dX1_readCall_137 rfl ?_
  refine g_iload dX1_readCall_138 rfl ?_
  refine g_iload dX1_readCall_140 rfl ?_
  refine g_callvV dX1_readCall_142 tm_1_92 rfl ⟨rfl, rfl⟩ (lc_b hb1) (Nat.le_of_ble_eq_true rfl) (cc0_addF (by omega) s hx hF _ _ _) (fun s142 h142 => ?_)
  refine g_return dX1_readCall_145 rfl ⟨rfl, ?_⟩
  exact QD.fl h142.1 (hσ.tr h142.2.2 (by omega)) h142.2.1
theorem cc1_callF3 {d : Nat} (hd : 2 ≤ d) {tx : Nat → Int} {n W b B r m h i k f : Nat} {x1 dp l3 v : Int} {o5 : Option am_V} {σ : am_HS} (hdp : 0 ≤ dp ∧ dp ≤ 8) (s : am_HS) (hx : CX tx n W b B r s) (hF : FlQ tx n B f s) (hσ : CF B 0 σ s) : am_Go lc d 1 6 0 cX1_readCall 43 [some (vR (some 4)), some (vI x1), some (vI dp), some (vI l3), some (vI v), o5] [] s (qV fun u => QD tx n W b B r m h i k σ (.inl f) u) := by
  have hft : 0 ≤ hI s 4 9 := by have := hF.1; omega
  refine g_aload_n dX1_readCall_43 rfl ?_
  refine g_iload_n dX1_readCall_44 rfl ?_
  refine g_callvV dX1_readCall_45 tm_1_103 rfl ⟨rfl, rfl⟩ rfl (Nat.le_of_ble_eq_true rfl) (cc1_openN (by omega) s hft _) (fun s45 h45 => ?_)
  rw [h45]
  refine g_aload_n dX1_readCall_48 rfl ?_
  refine g_iload_n dX1_readCall_49 rfl ?_
  refine g_iconst dX1_readCall_50 ⟨by decide, by decide⟩ ?_
  refine g_iadd dX1_readCall_51 rfl ⟨by omega, by omega⟩ ?_
  refine g_callvV dX1_readCall_52 tm_1_68 rfl ⟨rfl, rfl⟩ rfl (Nat.le_of_ble_eq_true rfl) (cc1_sumN (by omega) s hft _) (fun s52 h52 => ?_)
  rw [h52]
  refine g_iconst dX1_readCall_55 ⟨by decide, by decide⟩ ?_
  refine g_istore dX1_readCall_56 (by decide) rfl ?_
  exact cc1_callF hd s hx hF hσ
theorem cc1_callN {d : Nat} (hd : 2 ≤ d) {tx : Nat → Int} {n W b B r h i k j k2 : Nat} {dp v : Int} {op : Int} {e : NDn} {σ : am_HS} (s : am_HS) (q : QL tx n W b B r 4 h i k σ [(e, false)] j k2 s) (hk : k ≤ 2 * i) (hop : 9 ≤ op ∧ op ≤ 10) : am_Go lc d 1 6 0 cX1_readCall 104 [some (vR (some 4)), some (vI (op + 2)), some (vI dp), some (vI 1), some (vI v), some (vI 1)] [] s (qV fun u => QD tx n W b B r 0 h i k σ (if tkT tx n j = (3, 44) then (if (tkT tx n (j + 1)).1 = 1 then (if tkT tx n (j + 2) = (3, 41) then .inr (cmbL op (tkT tx n (j + 1)).2 [(e, false)], j + 3) else .inl (j + 2)) else .inl (j + 1)) else .inl j) u) := by
  have hx := q.1
  have hi := q.2.2.2.1
  have q6 := q.2.2.2.2.2.1
  have q3 := q.2.2.1
  have q5 := q.2.2.2.2.1
  have i5 := hi.2.2.2.2.1
  have xW : W ≤ 600 := hx.2.2.2.1.2.2
  obtain ⟨a, v2, hT⟩ : ∃ a v2, tkT tx n j = (a, v2) := ⟨_, _, rfl⟩
  have K := kn_r (hT ▸ CI.kn hx hi)
  have hlt : a ≠ 0 → j < W := fun z => CI.lt hx hi (by rw [hT]; exact z)
  have hpx : ∀ y : Int, (a, v2) = (3, y) → a = 3 ∧ v2 = y := fun y w => ⟨congrArg Prod.fst w, congrArg Prod.snd w⟩
  refine g_iload_n dX1_readCall_104 rfl ?_
  refine g_if_eq (tgt := 127) dX1_readCall_105 (by decide) (fun c105 => ?_) (fun c105 => ?_)
  · exfalso; omega
  · refine g_aload_n dX1_readCall_108 rfl ?_
    refine g_bipush dX1_readCall_109 (by decide) ?_
    refine g_callvV dX1_readCall_111 tm_1_65 rfl ⟨rfl, rfl⟩ rfl (Nat.le_of_ble_eq_true rfl) (take_ok (by omega) s hx hi _ (fun _ => hlt (by omega))) (fun s111 h111 => ?_)
    by_cases h44 : hI s 4 7 = 44
    · have hT2 : tkT tx n j = (3, 44) := by rw [hT, show a = 3 by omega, show v2 = 44 by omega]
      have Q1 := QL.tok q (Or.inl (by rw [hT2]; show (3 : Int) ≠ 2; decide)) (fun w => by rw [hT2] at w; exact absurd (congrArg Prod.snd w) (by show ¬ (44 : Int) = 45; decide)) (hlt (by omega))
      rw [← h111.1 h44] at Q1
      clear h111
      rw [if_pos hT2]
      have hi1 := Q1.2.2.2.1
      obtain ⟨a1, v1, hT1⟩ : ∃ a v2, tkT tx n (j + 1) = (a, v2) := ⟨_, _, rfl⟩
      have K1 := kn_r (hT1 ▸ CI.kn Q1.1 hi1)
      have hlt1 : a1 ≠ 0 → j + 1 < W := fun z => CI.lt Q1.1 hi1 (by rw [hT1]; exact z)
      refine g_aload_n dX1_readCall_114 rfl ?_
      refine g_getI dX1_readCall_115 tf_1_52 rfl rfl ?_
      refine g_istore dX1_readCall_118 (by decide) rfl ?_
      refine g_aload_n dX1_readCall_120 rfl ?_
      refine g_sipush dX1_readCall_121 (by decide) ?_
      refine g_callvV dX1_readCall_124 tm_1_65 rfl ⟨rfl, rfl⟩ rfl (Nat.le_of_ble_eq_true rfl) (take_ok (by omega) s111 Q1.1 hi1 _ (fun _ => hlt1 (by omega))) (fun s124 h124 => ?_)
      by_cases h1k : hI s111 4 7 = 1000
      · have ha1 : a1 = 1 := by omega
        have hN : (tkT tx n (j + 1)).1 = 1 := by rw [hT1]; exact ha1
        have Q2 := QL.tok Q1 (Or.inl (by omega)) (fun w => by rw [w] at hN; exact absurd hN (by decide)) (hlt1 (by omega))
        rw [← h124.1 h1k] at Q2
        clear h124
        have hnum := tkT_num (tx := tx) (n := n) (i := j + 1) hN
        have hv8 : hI s111 4 8 = (tkT tx n (j + 1)).2 := by rw [hT1]; show hI s111 4 8 = v1; omega
        rw [if_pos hN, ← hv8]
        rw [← hv8] at hnum
        exact cc1_callE hd s124 Q2 hk ⟨by omega, by omega⟩ (hI_r _ _ _) (by show 1 ≤ 10; decide) (fun _ => rfl) ⟨fun _ => rfl, fun z => absurd z (by omega), hnum⟩
      · have hN : ¬ (tkT tx n (j + 1)).1 = 1 := by rw [hT1]; show ¬ a1 = 1; omega
        rw [if_neg hN]
        obtain ⟨f1, f2, f3, f4⟩ := fl_ok Q1.1 hi1 (by have := Q1.2.2.2.2.2.1; have := hi1.2.2.2.2.1; omega)
        rw [← h124.2 h1k] at f2 f3 f4
        clear f1 h124
        exact cc1_callF2 hd s124 f2 f3 (Q1.2.1.z.tr (f4 0) (by omega))
    · have hT2 : ¬ tkT tx n j = (3, 44) := fun w => by
        rw [hT] at w
        have := hpx 44 w
        omega
      rw [if_neg hT2]
      obtain ⟨f1, f2, f3, f4⟩ := fl_ok hx hi (by omega)
      rw [← h111.2 h44] at f2 f3 f4
      clear f1 h111
      have hft : 0 ≤ hI s111 4 9 := by have := f3.1; omega
      refine g_aload_n dX1_readCall_114 rfl ?_
      refine g_getI dX1_readCall_115 tf_1_52 rfl rfl ?_
      refine g_istore dX1_readCall_118 (by decide) rfl ?_
      refine g_aload_n dX1_readCall_120 rfl ?_
      refine g_sipush dX1_readCall_121 (by decide) ?_
      refine g_callvV dX1_readCall_124 tm_1_65 rfl ⟨rfl, rfl⟩ rfl (Nat.le_of_ble_eq_true rfl) (cc1_takeN (by omega) s111 hft _) (fun s124 h124 => ?_)
      rw [h124]
      exact cc1_callF2 hd s111 f2 f3 (q.2.1.z.tr (f4 0) (by omega))
theorem cc1_callD {d : Nat} (hd : 2 ≤ d) {tx : Nat → Int} {n W b B r h : Nat} {dp v num op l3 : Int} {sm : Option (Nat → PR)} (hdp : 0 ≤ dp ∧ dp ≤ 8) (hsm : (sm = none ∧ dp = 8) ∨ ∃ pr, sm = some pr ∧ dp < 8 ∧ KOK tx n W b B r 0 h d mX1_readSum (dp + 1) pr) (hop : 4 ≤ op ∧ op ≤ 10) (hl3 : (9 ≤ op ∧ l3 = 1) ∨ (op < 9 ∧ l3 = 0)) (hv : rI v) (hw : op < 9 → (7 ≤ op → num = v) ∧ (op < 7 → num = 0) ∧ 0 ≤ num ∧ num ≤ 9999) {i k : Nat} (σ : am_HS) (hx : CX tx n W b B r σ) (hi : CI W B i k σ) (hmn : hI σ (6 + B) 1 = 0 ∨ hI σ (6 + B) 1 = 1) (hk2 : k ≤ 2 * i) {o5 : Option am_V} : am_Go lc d 1 6 0 cX1_readCall 43 [some (vR (some 4)), some (vI (op + 2)), some (vI dp), some (vI l3), some (vI v), o5] [] σ (qV fun u => QD tx n W b B r 0 (h + 10) i k σ (pLj sm (tkT tx n) op num i) u) := by
  have hf := hx.1
  have i1 := hi.1
  have i4 := hi.2.2.2.1
  have i5 := hi.2.2.2.2.1
  have xW : W ≤ 600 := hx.2.2.2.1.2.2
  obtain ⟨a, v2, hT⟩ : ∃ a v2, tkT tx n i = (a, v2) := ⟨_, _, rfl⟩
  have K := kn_r (hT ▸ CI.kn hx hi)
  have hlt : a ≠ 0 → i < W := fun z => CI.lt hx hi (by rw [hT]; exact z)
  have hpx : ∀ y : Int, (a, v2) = (3, y) → a = 3 ∧ v2 = y := fun y w => ⟨congrArg Prod.fst w, congrArg Prod.snd w⟩
  by_cases h40 : hI σ 4 7 = 40 ∧ dp < 8
  · have hiW := hlt (by omega)
    have hTi : tkT tx n i = (3, 40) := by rw [hT, show a = 3 by omega, show v2 = 40 by omega]
    obtain ⟨pr, hpr, hd8, hks⟩ : ∃ pr, sm = some pr ∧ dp < 8 ∧ KOK tx n W b B r 0 h d mX1_readSum (dp + 1) pr := by
      rcases hsm with z | z
      · exact absurd z.2 (by omega)
      · exact z
    clear hsm
    subst hpr
    obtain ⟨M, hM⟩ : ∃ M : Nat, M = 649 := ⟨_, rfl⟩
    have e0 : pLj (some pr) (tkT tx n) op num i = match pr (i + 1) with
        | .inl f => .inl f
        | .inr q => if 9 ≤ op then (if tkT tx n q.2 = (3, 44) then (if (tkT tx n (q.2 + 1)).1 = 1 then (if tkT tx n (q.2 + 2) = (3, 41) then .inr (cmbL op (tkT tx n (q.2 + 1)).2 [(q.1, false)], q.2 + 3) else .inl (q.2 + 2)) else .inl (q.2 + 1)) else .inl q.2)
          else pLC pr (tkT tx n) op num (M + 1) [(q.1, false)] q.2 := by
      rw [hM]
      unfold pLj
      rw [if_pos hTi]
      rfl
    obtain ⟨t1, t2, t3⟩ := tn_ok hx hi hiW
    have tm := tnS_o (s := σ) (i := i + 1) (o := 6 + B) (j := 1) (by omega)
    refine g_aload_n dX1_readCall_43 rfl ?_
    refine g_iload_n dX1_readCall_44 rfl ?_
    refine g_callvV dX1_readCall_45 tm_1_103 rfl ⟨rfl, rfl⟩ rfl (Nat.le_of_ble_eq_true rfl) (cc1_openS (by omega) σ hf i (by omega) i1 i4 _ h40.2 h40.1) (fun s45 h45 => ?_)
    subst h45
    refine g_aload_n dX1_readCall_48 rfl ?_
    refine g_iload_n dX1_readCall_49 rfl ?_
    refine g_iconst dX1_readCall_50 ⟨by decide, by decide⟩ ?_
    refine g_iadd dX1_readCall_51 rfl ⟨by omega, by omega⟩ ?_
    refine g_callvV dX1_readCall_52 tm_1_68 rfl ⟨rfl, rfl⟩ rfl (Nat.le_of_ble_eq_true rfl) (hks (i + 1) k _ t1 t2 (by rw [tm]; exact hmn) (by omega)) (fun s52 h52 => ?_)
    have hQ := QD.pre t3 tm hmn (Or.inl (by rw [hTi]; show (3 : Int) ≠ 2; decide)) (fun w => by rw [hTi] at w; exact absurd (congrArg Prod.snd w) (by show ¬ (40 : Int) = 45; decide)) h52
    clear h52
    rcases hres : pr (i + 1) with f | ⟨e, j⟩
    · rw [hres] at hQ e0
      rw [e0]
      refine g_iconst dX1_readCall_55 ⟨by decide, by decide⟩ ?_
      refine g_istore dX1_readCall_56 (by decide) rfl ?_
      exact cc1_callF hd s52 hQ.1 hQ.2.2 hQ.2.1
    · rw [hres] at hQ e0
      rw [e0]
      clear e0
      obtain ⟨k3, p⟩ := QD.ql hQ
      have pW := p.2.2.2.1.2.2.2.2.1
      have Q4 : QL tx n W b B r 4 (h + 10) i k σ [(e, false)] j k3 s52 := ⟨p.1, p.2.1, p.2.2.1, p.2.2.2.1, p.2.2.2.2.1, p.2.2.2.2.2.1, Cd.up (Cd.c1 p.2.2.2.2.2.2.1) (by omega), p.2.2.2.2.2.2.2⟩
      by_cases h9 : 9 ≤ op
      · have hl1 : l3 = 1 := by omega
        subst hl1
        show am_Go lc d 1 6 0 cX1_readCall 55 _ [] s52 (qV fun u => QD tx n W b B r 0 (h + 10) i k σ (if 9 ≤ op then (if tkT tx n j = (3, 44) then (if (tkT tx n (j + 1)).1 = 1 then (if tkT tx n (j + 2) = (3, 41) then .inr (cmbL op (tkT tx n (j + 1)).2 [(e, false)], j + 3) else .inl (j + 2)) else .inl (j + 1)) else .inl j) else pLC pr (tkT tx n) op num (M + 1) [(e, false)] j) u)
        rw [if_pos h9]
        refine g_iconst dX1_readCall_55 ⟨by decide, by decide⟩ ?_
        refine g_istore dX1_readCall_56 (by decide) rfl ?_
        refine g_iload_n dX1_readCall_58 rfl ?_
        refine g_if_ne (tgt := 104) dX1_readCall_59 (by decide) (fun c59 => ?_) (fun c59 => ?_)
        · exact cc1_callN hd s52 Q4 hk2 ⟨by omega, by omega⟩
        · exfalso; omega
      · have hl1 : l3 = 0 := by omega
        subst hl1
        show am_Go lc d 1 6 0 cX1_readCall 55 _ [] s52 (qV fun u => QD tx n W b B r 0 (h + 10) i k σ (if 9 ≤ op then _ else pLC pr (tkT tx n) op num (M + 1) [(e, false)] j) u)
        rw [if_neg h9]
        refine g_iconst dX1_readCall_55 ⟨by decide, by decide⟩ ?_
        refine g_istore dX1_readCall_56 (by decide) rfl ?_
        exact cc1_callL hd hks hk2 ⟨by omega, by omega⟩ ⟨by omega, by omega⟩ hv (hw (by omega)) (M + 1) [(e, false)] j k3 s52 Q4 (by omega) (by show 1 ≤ 10; decide)
  · obtain ⟨f1, f2, f3, f4⟩ := fl_ok hx hi (by omega)
    have hft : 0 ≤ hI (flS σ i) 4 9 := by have := f3.1; omega
    have e0 : pLj sm (tkT tx n) op num i = .inl i := by
      unfold pLj
      by_cases hq : tkT tx n i = ((3 : Int), (40 : Int))
      · have hq2 := hq
        rw [hT] at hq2
        have := hpx 40 hq2
        rw [if_pos hq]
        rcases hsm with z | ⟨pr, z1, z2, _⟩
        · rw [z.1]
        · exact absurd (show hI σ 4 7 = 40 ∧ dp < 8 by omega) h40
      · rw [if_neg hq]
    rw [e0]
    refine g_aload_n dX1_readCall_43 rfl ?_
    refine g_iload_n dX1_readCall_44 rfl ?_
    refine g_callvV dX1_readCall_45 tm_1_103 rfl ⟨rfl, rfl⟩ rfl (Nat.le_of_ble_eq_true rfl) (cc1_openX (by omega) σ hf i (by omega) i1 _ (by omega)) (fun s45 h45 => ?_)
    subst h45
    refine g_aload_n dX1_readCall_48 rfl ?_
    refine g_iload_n dX1_readCall_49 rfl ?_
    refine g_iconst dX1_readCall_50 ⟨by decide, by decide⟩ ?_
    refine g_iadd dX1_readCall_51 rfl ⟨by omega, by omega⟩ ?_
    refine g_callvV dX1_readCall_52 tm_1_68 rfl ⟨rfl, rfl⟩ rfl (Nat.le_of_ble_eq_true rfl) (cc1_sumN (by omega) _ hft _) (fun s52 h52 => ?_)
    subst h52
    refine g_iconst dX1_readCall_55 ⟨by decide, by decide⟩ ?_
    refine g_istore dX1_readCall_56 (by decide) rfl ?_
    exact cc1_callF hd (flS σ i) f2 f3 (f4 0)
theorem cc1_readCall {d : Nat} (hd : 2 ≤ d) {tx : Nat → Int} {n W b B r h h2 : Nat} {dp : Int} {sm : Option (Nat → PR)} (hh : h + 10 ≤ h2) (hdp : 0 ≤ dp ∧ dp ≤ 8) (hsm : (sm = none ∧ dp = 8) ∨ ∃ pr, sm = some pr ∧ dp < 8 ∧ KOK tx n W b B r 0 h d mX1_readSum (dp + 1) pr) : KCA tx n W b B r h2 (d + 1) dp sm := by
  intro i k σ op hx hi hmn hk2 hop
  have hB : B < 2 := by have := hx.2.2.2.1.1; omega
  have i5 := hi.2.2.2.2.1
  have xW : W ≤ 600 := hx.2.2.2.1.2.2
  refine am_enter rfl rfl (Nat.le_of_ble_eq_true rfl) ?_
  obtain ⟨a, v2, hT⟩ : ∃ a v2, tkT tx n i = (a, v2) := ⟨_, _, rfl⟩
  have K := kn_r (hT ▸ CI.kn hx hi)
  have hlt : a ≠ 0 → i < W := fun z => CI.lt hx hi (by rw [hT]; exact z)
  have hD : ∀ (l3 : Int) (o5 : Option am_V), ((9 ≤ op ∧ l3 = 1) ∨ (op < 9 ∧ l3 = 0)) → ¬ (op = 7 ∨ op = 8) → am_Go lc d 1 6 0 cX1_readCall 43 [some (vR (some 4)), some (vI (op + 2)), some (vI dp), some (vI l3), some (vI (hI σ 4 8)), o5] [] σ (qV fun u => QD tx n W b B r 0 h2 i k σ (pLi sm (tkT tx n) op i) u) := fun l3 o5 hl3 h78 => by
    refine (cc1_callD (num := 0) hd hdp hsm hop hl3 (hI_r σ 4 8) (fun z => ⟨fun _ => by omega, fun _ => rfl, by decide, by decide⟩) σ hx hi hmn hk2).mono ?_
    rintro res u ⟨rfl, z⟩
    refine ⟨rfl, ?_⟩
    unfold pLi
    rw [if_neg h78]
    exact QD.up hh z
  have hE : (op = 7 ∨ op = 8) → ∀ (s : am_HS) (o5 : Option am_V), (hI σ 4 7 = 1000 → s = tnS σ (i + 1)) ∧ (hI σ 4 7 ≠ 1000 → s = flS σ i) → am_Go lc d 1 6 0 cX1_readCall 43 [some (vR (some 4)), some (vI (op + 2)), some (vI dp), some (vI 0), some (vI (hI σ 4 8)), o5] [] s (qV fun u => QD tx n W b B r 0 h2 i k σ (pLi sm (tkT tx n) op i) u) := fun h78 s o5 hs => by
    unfold pLi
    rw [if_pos h78]
    by_cases h1k : hI σ 4 7 = 1000
    · have hN : (tkT tx n i).1 = 1 := by rw [hT]; show a = 1; omega
      rw [if_pos hN]
      have e := hs.1 h1k
      clear hs
      subst e
      obtain ⟨t1, t2, t3⟩ := tn_ok hx hi (hlt (by omega))
      have tm := tnS_o (s := σ) (i := i + 1) (o := 6 + B) (j := 1) (by omega)
      have hnum := tkT_num (tx := tx) (n := n) (i := i) hN
      have hv8 : hI σ 4 8 = (tkT tx n i).2 := by rw [hT]; show hI σ 4 8 = v2; omega
      refine (cc1_callD (num := (tkT tx n i).2) hd hdp hsm hop (Or.inr ⟨by omega, rfl⟩) (hI_r σ 4 8) (fun z => ⟨fun _ => hv8.symm, fun w => absurd w (by omega), hnum⟩) (tnS σ (i + 1)) t1 t2 (by rw [tm]; exact hmn) (by omega)).mono ?_
      rintro res u ⟨rfl, z⟩
      refine ⟨rfl, ?_⟩
      exact QD.up hh (QD.pre t3 tm hmn (Or.inl (by omega)) (fun w => by rw [w] at hN; exact absurd hN (by decide)) z)
    · have hN : ¬ (tkT tx n i).1 = 1 := by rw [hT]; show ¬ a = 1; omega
      rw [if_neg hN]
      have e := hs.2 h1k
      clear hs
      obtain ⟨f1, f2, f3, f4⟩ := fl_ok hx hi (by omega)
      subst e
      exact cc1_callF3 hd hdp _ f2 f3 (f4 0)
  refine g_iload_n dX1_readCall_0 rfl ?_
  refine g_bipush dX1_readCall_1 (by decide) ?_
  refine g_icmp_eq (tgt := 12) dX1_readCall_3 (by decide) (fun c3 => ?_) (fun c3 => ?_)
  · refine g_iconst dX1_readCall_12 ⟨by decide, by decide⟩ ?_
    refine g_goto (tgt := 17) dX1_readCall_13 (by decide) ?_
    refine g_istore_n dX1_readCall_17 (by decide) rfl ?_
    refine g_aload_n dX1_readCall_18 rfl ?_
    refine g_getI dX1_readCall_19 tf_1_52 rfl rfl ?_
    refine g_istore dX1_readCall_22 (by decide) rfl ?_
    refine g_iload_n dX1_readCall_24 rfl ?_
    refine g_bipush dX1_readCall_25 (by decide) ?_
    refine g_icmp_eq (tgt := 36) dX1_readCall_27 (by decide) (fun c27 => ?_) (fun c27 => ?_)
    · refine g_aload_n dX1_readCall_36 rfl ?_
      refine g_sipush dX1_readCall_37 (by decide) ?_
      refine g_callvV dX1_readCall_40 tm_1_65 rfl ⟨rfl, rfl⟩ rfl (Nat.le_of_ble_eq_true rfl) (take_ok (by omega) σ hx hi _ (fun _ => hlt (by omega))) (fun s40 h40 => ?_)
      first | (exfalso; omega) | exact hE (by omega) s40 _ h40
    · refine g_iload_n dX1_readCall_30 rfl ?_
      refine g_bipush dX1_readCall_31 (by decide) ?_
      refine g_icmp_ne (tgt := 43) dX1_readCall_33 (by decide) (fun c33 => ?_) (fun c33 => ?_)
      · first | (exfalso; omega) | exact hD _ _ (by omega) (by omega)
      · refine g_aload_n dX1_readCall_36 rfl ?_
        refine g_sipush dX1_readCall_37 (by decide) ?_
        refine g_callvV dX1_readCall_40 tm_1_65 rfl ⟨rfl, rfl⟩ rfl (Nat.le_of_ble_eq_true rfl) (take_ok (by omega) σ hx hi _ (fun _ => hlt (by omega))) (fun s40 h40 => ?_)
        first | (exfalso; omega) | exact hE (by omega) s40 _ h40
  · refine g_iload_n dX1_readCall_6 rfl ?_
    refine g_bipush dX1_readCall_7 (by decide) ?_
    refine g_icmp_ne (tgt := 16) dX1_readCall_9 (by decide) (fun c9 => ?_) (fun c9 => ?_)
    · refine g_iconst dX1_readCall_16 ⟨by decide, by decide⟩ ?_
      refine g_istore_n dX1_readCall_17 (by decide) rfl ?_
      refine g_aload_n dX1_readCall_18 rfl ?_
      refine g_getI dX1_readCall_19 tf_1_52 rfl rfl ?_
      refine g_istore dX1_readCall_22 (by decide) rfl ?_
      refine g_iload_n dX1_readCall_24 rfl ?_
      refine g_bipush dX1_readCall_25 (by decide) ?_
      refine g_icmp_eq (tgt := 36) dX1_readCall_27 (by decide) (fun c27 => ?_) (fun c27 => ?_)
      · refine g_aload_n dX1_readCall_36 rfl ?_
        refine g_sipush dX1_readCall_37 (by decide) ?_
        refine g_callvV dX1_readCall_40 tm_1_65 rfl ⟨rfl, rfl⟩ rfl (Nat.le_of_ble_eq_true rfl) (take_ok (by omega) σ hx hi _ (fun _ => hlt (by omega))) (fun s40 h40 => ?_)
        first | (exfalso; omega) | exact hE (by omega) s40 _ h40
      · refine g_iload_n dX1_readCall_30 rfl ?_
        refine g_bipush dX1_readCall_31 (by decide) ?_
        refine g_icmp_ne (tgt := 43) dX1_readCall_33 (by decide) (fun c33 => ?_) (fun c33 => ?_)
        · first | (exfalso; omega) | exact hD _ _ (by omega) (by omega)
        · refine g_aload_n dX1_readCall_36 rfl ?_
          refine g_sipush dX1_readCall_37 (by decide) ?_
          refine g_callvV dX1_readCall_40 tm_1_65 rfl ⟨rfl, rfl⟩ rfl (Nat.le_of_ble_eq_true rfl) (take_ok (by omega) σ hx hi _ (fun _ => hlt (by omega))) (fun s40 h40 => ?_)
          first | (exfalso; omega) | exact hE (by omega) s40 _ h40
    · refine g_iconst dX1_readCall_12 ⟨by decide, by decide⟩ ?_
      refine g_goto (tgt := 17) dX1_readCall_13 (by decide) ?_
      refine g_istore_n dX1_readCall_17 (by decide) rfl ?_
      refine g_aload_n dX1_readCall_18 rfl ?_
      refine g_getI dX1_readCall_19 tf_1_52 rfl rfl ?_
      refine g_istore dX1_readCall_22 (by decide) rfl ?_
      refine g_iload_n dX1_readCall_24 rfl ?_
      refine g_bipush dX1_readCall_25 (by decide) ?_
      refine g_icmp_eq (tgt := 36) dX1_readCall_27 (by decide) (fun c27 => ?_) (fun c27 => ?_)
      · refine g_aload_n dX1_readCall_36 rfl ?_
        refine g_sipush dX1_readCall_37 (by decide) ?_
        refine g_callvV dX1_readCall_40 tm_1_65 rfl ⟨rfl, rfl⟩ rfl (Nat.le_of_ble_eq_true rfl) (take_ok (by omega) σ hx hi _ (fun _ => hlt (by omega))) (fun s40 h40 => ?_)
        first | (exfalso; omega) | exact hE (by omega) s40 _ h40
      · refine g_iload_n dX1_readCall_30 rfl ?_
        refine g_bipush dX1_readCall_31 (by decide) ?_
        refine g_icmp_ne (tgt := 43) dX1_readCall_33 (by decide) (fun c33 => ?_) (fun c33 => ?_)
        · first | (exfalso; omega) | exact hD _ _ (by omega) (by omega)
        · refine g_aload_n dX1_readCall_36 rfl ?_
          refine g_sipush dX1_readCall_37 (by decide) ?_
          refine g_callvV dX1_readCall_40 tm_1_65 rfl ⟨rfl, rfl⟩ rfl (Nat.le_of_ble_eq_true rfl) (take_ok (by omega) σ hx hi _ (fun _ => hlt (by omega))) (fun s40 h40 => ?_)
          first | (exfalso; omega) | exact hE (by omega) s40 _ h40
