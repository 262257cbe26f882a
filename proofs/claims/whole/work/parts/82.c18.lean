/-! THE CLASS: a product of the grammar, the walk -/
theorem QZ.add {tx : Nat → Int} {n W b B r m2 h2 i k j k3 : Nat} {σ s : am_HS} {l2 : List (NDn × Bool)} (q1 : CX tx n W b B r s) (q2 : CF B k σ s) (q3 : i < j) (q4 : CI W B j k3 s) (q5 : k < k3) (q6 : k3 + 2 ≤ k + 2 * (j - i)) (q8 : NmP (tdC (cdT s B)) (tkT tx n) k k3 i j) (q9 : MnQ tx n B i j σ s) (hk : k ≤ 2 * i) {op ar ta : Int} (ro : rI op) (ra : rI ar) (rt : rI ta) (hop : op ≠ 1) (hc : ∀ c : CTb, (∀ x, k ≤ x → x < k3 → c x = cdT s B x) → c k3 = (op, ar, ta) → Cd c m2 h2 k (k3 + 1) l2) : QL tx n W b B r m2 h2 i k σ l2 j (k3 + 1) (adS s B k3 r op ar ta) := by
  have hj := q4.2.2.2.2.1
  have hW : W ≤ 600 := q1.2.2.2.1.2.2
  have hB : B < 2 := by have := q1.2.2.2.1.1; omega
  have hk12 : k3 < 1200 := by omega
  obtain ⟨a1, a2, a3, a4, a5⟩ := ad_ok q1 q4 hk12 ro ra rt
  have hm := adS_o (s := s) (B := B) (k := k3) (r := r) (op := op) (ar := ar) (ta := ta) (o := 6 + B) (j := 1) (by omega) (by omega) (by omega)
  have hcx : ∀ x, k ≤ x → x < k3 → cdT (adS s B k3 r op ar ta) B x = cdT s B x := fun x _ hx => a3.cd hB hx
  refine ⟨a1, q2.tr a3 (by omega), q3, a2, by omega, by omega, hc _ hcx a4, ?_, ?_, a5⟩
  · exact (q8.congr (fun x x1 x2 => ⟨congrArg (fun y => y.1) (hcx x x1 x2), congrArg (fun y => y.2.1) (hcx x x1 x2)⟩)).app (NmP.nodeNo (by show (cdT _ B k3).1 ≠ 1; rw [a4]; exact hop)) (by omega) (by omega) (by omega) (by omega)
  · exact q9.tr (MnQ.rf hm q9.1) (by omega) (by omega)
theorem cc1_prodF {d : Nat} (hd : 2 ≤ d) {tx : Nat → Int} {n W b B r h i k f : Nat} {dp x : Int} {o3 : Option am_V} {σ : am_HS} (s : am_HS) (hx : CX tx n W b B r s) (hF : FlQ tx n B f s) (hσ : CF B 0 σ s) : am_Go lc d 1 4 0 cX1_readProduct 26 [some (vR (some 4)), some (vI dp), some (vI x), o3] [] s (qV fun u => QD tx n W b B r 1 h i k σ (.inl f) u) := by
  have hf := hx.1
  have xb : b + B = 1 := hx.2.2.2.1.1
  have hB : B < 2 := by omega
  have hb1 : B < 2 := hB
  have hft : 0 ≤ hI s 4 9 := by have := hF.1; omega
  have hrB : cH b 4 2 = some (6 + B) := by
    show some (7 - b) = some (6 + B)
    rw [show 7 - b = 6 + B by omega]
  refine g_iload_n dX1_readProduct_26 rfl ?_
  refine g_sipush dX1_readProduct_27 (by decide) ?_
  refine g_icmp_ge (tgt := 143) dX1_readProduct_30 (by decide) (fun c30 => ?_) (fun c30 => ?_)
  · refine g_aload_n dX1_readProduct_143 rfl ?_
    refine g_getA dX1_readProduct_144 tf_1_18 rfl rfl (crf hf hrB) ?_
    refine g_bipush dX1_readProduct_147 (by decide) ?_
    refine g_iconst dX1_readProduct_149 ⟨by decide, by decide⟩ ?_
    refine g_iconst dX1_readProduct_150 ⟨by decide, by decide⟩ ?_
    refine g_callvV dX1_readProduct_151 tm_1_92 rfl ⟨rfl, rfl⟩ (lc_b hb1) (Nat.le_of_ble_eq_true rfl) (cc0_addF (by omega) s hx hF _ _ _) (fun s151 h151 => ?_)
    refine g_return dX1_readProduct_154 rfl ⟨rfl, ?_⟩
    exact QD.fl h151.1 (hσ.tr h151.2.2 (by omega)) h151.2.1
  · refine g_aload_n dX1_readProduct_33 rfl ?_
    refine g_getI dX1_readProduct_34 tf_1_32 rfl rfl ?_
    refine g_if_ge (tgt := 143) dX1_readProduct_37 (by decide) (fun c37 => ?_) (fun c37 => ?_)
    · refine g_aload_n dX1_readProduct_143 rfl ?_
      refine g_getA dX1_readProduct_144 tf_1_18 rfl rfl (crf hf hrB) ?_
      refine g_bipush dX1_readProduct_147 (by decide) ?_
      refine g_iconst dX1_readProduct_149 ⟨by decide, by decide⟩ ?_
      refine g_iconst dX1_readProduct_150 ⟨by decide, by decide⟩ ?_
      refine g_callvV dX1_readProduct_151 tm_1_92 rfl ⟨rfl, rfl⟩ (lc_b hb1) (Nat.le_of_ble_eq_true rfl) (cc0_addF (by omega) s hx hF _ _ _) (fun s151 h151 => ?_)
      refine g_return dX1_readProduct_154 rfl ⟨rfl, ?_⟩
      exact QD.fl h151.1 (hσ.tr h151.2.2 (by omega)) h151.2.1
    · exfalso; omega
theorem cc1_prodO {d : Nat} (hd : 2 ≤ d) {tx : Nat → Int} {n W b B r h : Nat} {dp : Int} {one : Nat → PR} {i k : Nat} {σ : am_HS} (hk : k ≤ 2 * i) {m : Nat} (ih : ∀ (l : List (NDn × Bool)) (j k2 x : Nat) (s : am_HS) (o3 : Option am_V), QL tx n W b B r 3 (h + 1) i k σ l j k2 s → W < m + j → x ≤ j → (k2 + 2 ≤ k + 2 * (j - i) ∨ tkT tx n j = (3, 42) ∨ tkT tx n j = (3, 47)) → am_Go lc d 1 4 0 cX1_readProduct 26 [some (vR (some 4)), some (vI dp), some (vI (x : Int)), o3] [] s (qV fun u => QD tx n W b B r 1 (h + 1) i k σ (pLP one (tkT tx n) m l j) u)) {l : List (NDn × Bool)} {j k2 x : Nat} {s : am_HS} (q : QL tx n W b B r 3 (h + 1) i k σ l j k2 s) (hw : W < m + 1 + j) (hxj : x ≤ j) (hT2 : tkT tx n j = (3, 47)) (hjW : j < W) {res : PR} (e0 : res = if (tkT tx n (j + 1)).1 = 1 ∧ (tkT tx n (j + 1)).2 ≠ 0 then pLP one (tkT tx n) m (l ++ [(fun _ => vN (tkT tx n (j + 1)).2 1, true)]) (j + 2) else .inl (j + 1)) : am_Go lc d 1 4 0 cX1_readProduct 103 [some (vR (some 4)), some (vI dp), some (vI (x : Int)), some (vI 0)] [] (tnS s (j + 1)) (qV fun u => QD tx n W b B r 1 (h + 1) i k σ res u) := by
  have q6 := q.2.2.2.2.2.1
  have q3 := q.2.2.1
  have q5 := q.2.2.2.2.1
  obtain ⟨xb, xr, xW⟩ := q.1.2.2.2.1
  obtain ⟨t1, t2, t3⟩ := tn_ok q.1 q.2.2.2.1 hjW
  have hB : B < 2 := by omega
  have hb1 : B < 2 := hB
  have hrB : cH b 4 2 = some (6 + B) := by
    show some (7 - b) = some (6 + B)
    rw [show 7 - b = 6 + B by omega]
  obtain ⟨a3, v3, hT3⟩ : ∃ a v, tkT tx n (j + 1) = (a, v) := ⟨_, _, rfl⟩
  have K3 := kn_r (hT3 ▸ CI.kn t1 t2)
  have hl3 : a3 ≠ 0 → j + 1 < W := fun z => CI.lt t1 t2 (by rw [hT3]; exact z)
  refine g_aload_n dX1_readProduct_103 rfl ?_
  refine g_getI dX1_readProduct_104 tf_1_52 rfl rfl ?_
  refine g_if_ne (tgt := 117) dX1_readProduct_107 (by decide) (fun c107 => ?_) (fun c107 => ?_)
  · refine g_aload_n dX1_readProduct_117 rfl ?_
    refine g_getA dX1_readProduct_118 tf_1_18 rfl rfl (crf t1.1 hrB) ?_
    refine g_iconst dX1_readProduct_121 ⟨by decide, by decide⟩ ?_
    refine g_aload_n dX1_readProduct_122 rfl ?_
    refine g_getI dX1_readProduct_123 tf_1_52 rfl rfl ?_
    refine g_iconst dX1_readProduct_126 ⟨by decide, by decide⟩ ?_
    refine g_callvV dX1_readProduct_127 tm_1_92 rfl ⟨rfl, rfl⟩ (lc_b hb1) (Nat.le_of_ble_eq_true rfl) (cc0_add (by omega) (tnS s (j + 1)) t1.1 hB r k2 t1.2.1 (by omega) t2.2.2.2.2.2 (by omega) _ _ _) (fun s127 h127 => ?_)
    have A := ad_ok t1 t2 (by omega) (op := 5) (ar := hI (tnS s (j + 1)) 4 8) (ta := 1) ⟨by decide, by decide⟩ (hI_r _ _ _) ⟨by decide, by decide⟩
    rw [← h127] at A
    obtain ⟨ax, ai, af, ac, ae⟩ := A
    have K4 := kn_r (hT3 ▸ CI.kn ax ai)
    refine g_aload_n dX1_readProduct_130 rfl ?_
    refine g_sipush dX1_readProduct_131 (by decide) ?_
    refine g_callvV dX1_readProduct_134 tm_1_65 rfl ⟨rfl, rfl⟩ rfl (Nat.le_of_ble_eq_true rfl) (take_ok (by omega) s127 ax ai _ (fun _ => hl3 (by omega))) (fun s134 h134 => ?_)
    refine g_iinc dX1_readProduct_137 (by decide) rfl ⟨by omega, by omega⟩ (show (x : Int) + 1 = ((x + 1 : Nat) : Int) from by omega) rfl ?_
    refine g_goto (tgt := 26) dX1_readProduct_140 (by decide) ?_
    by_cases h1000 : hI s127 4 7 = 1000
    · have e1 := h134.1 h1000
      have hyes : (tkT tx n (j + 1)).1 = 1 ∧ (tkT tx n (j + 1)).2 ≠ 0 := by
        rw [hT3]
        exact ⟨show a3 = 1 by omega, show v3 ≠ 0 by omega⟩
      have hnum := tkT_num (tx := tx) (n := n) (i := j + 1) hyes.1
      rw [if_pos hyes] at e0
      rw [e0, e1]
      have hv3 : hI (tnS s (j + 1)) 4 8 = (tkT tx n (j + 1)).2 := by rw [hT3]; show _ = v3; omega
      have hy2 := hyes.2
      rw [hv3] at h127
      subst h127
      have Q1 := QL.tok q (Or.inl (by rw [hT2]; decide)) (by rw [hT2]; decide) hjW
      have Q2 := QL.add Q1 hk (by omega) (op := 5) (ar := (tkT tx n (j + 1)).2) (ta := 1) ⟨by decide, by decide⟩ (by rw [← hv3]; exact hI_r _ _ _) ⟨by decide, by decide⟩ (by decide) (fun c _ h1 h2 => Cd.pO h2 h1 ⟨by omega, hnum.2⟩)
      have Q3 := QL.tok Q2 (Or.inl (by rw [hyes.1]; decide)) (fun w => by rw [w] at hyes; exact absurd hyes.1 (by decide)) (hl3 (by omega))
      exact ih _ _ (k2 + 1) (x + 1) _ _ Q3 (by omega) (by omega) (Or.inl (by omega))
    · have e1 := h134.2 h1000
      have hno : ¬ ((tkT tx n (j + 1)).1 = 1 ∧ (tkT tx n (j + 1)).2 ≠ 0) := fun w => by
        rw [hT3] at w
        have w1 : a3 = 1 := w.1
        omega
      rw [if_neg hno] at e0
      rw [e0, e1]
      obtain ⟨_, f2, f3, f4⟩ := fl_ok ax ai (by omega)
      exact cc1_prodF (by omega) _ f2 f3 (((q.2.1.z.tr (t3 0) (by omega)).tr af.z (by omega)).tr (f4 0) (by omega))
  · refine g_aload_n dX1_readProduct_110 rfl ?_
    refine g_callvV dX1_readProduct_111 tm_1_62 rfl ⟨rfl, rfl⟩ rfl (Nat.le_of_ble_eq_true rfl) (cc1_fail (by omega) (tnS s (j + 1)) t1.1 (j + 1) (by omega) t2.1) (fun s111 h111 => ?_)
    have e111 : s111 = flS (tnS s (j + 1)) (j + 1) := h111
    clear h111
    subst e111
    obtain ⟨_, f2, f3, f4⟩ := fl_ok t1 t2 (by omega)
    have hno : ¬ ((tkT tx n (j + 1)).1 = 1 ∧ (tkT tx n (j + 1)).2 ≠ 0) := fun w => by
      rw [hT3] at w
      have w1 : a3 = 1 := w.1
      have w2 : v3 ≠ 0 := w.2
      omega
    rw [if_neg hno] at e0
    rw [e0]
    refine g_goto (tgt := 137) dX1_readProduct_114 (by decide) ?_
    refine g_iinc dX1_readProduct_137 (by decide) rfl ⟨by omega, by omega⟩ (show (x : Int) + 1 = ((x + 1 : Nat) : Int) from by omega) rfl ?_
    refine g_goto (tgt := 26) dX1_readProduct_140 (by decide) ?_
    exact cc1_prodF (by omega) _ f2 f3 ((q.2.1.z.tr (t3 0) (by omega)).tr (f4 0) (by omega))
theorem cc1_prodL {d : Nat} (hd : 2 ≤ d) {tx : Nat → Int} {n W b B r h : Nat} {dp : Int} {one : Nat → PR} (hone : KOK tx n W b B r 0 h d mX1_readPart dp one) {i k : Nat} {σ : am_HS} (hk : k ≤ 2 * i) : ∀ (m : Nat) (l : List (NDn × Bool)) (j k2 x : Nat) (s : am_HS) (o3 : Option am_V), QL tx n W b B r 3 (h + 1) i k σ l j k2 s → W < m + j → x ≤ j → (k2 + 2 ≤ k + 2 * (j - i) ∨ tkT tx n j = (3, 42) ∨ tkT tx n j = (3, 47)) → am_Go lc d 1 4 0 cX1_readProduct 26 [some (vR (some 4)), some (vI dp), some (vI (x : Int)), o3] [] s (qV fun u => QD tx n W b B r 1 (h + 1) i k σ (pLP one (tkT tx n) m l j) u) := by
  intro m
  induction m with
  | zero =>
    intro l j k2 x s o3 q hw hxj _
    have := q.2.2.2.1.2.2.2.2.1
    omega
  | succ m ih =>
    intro l j k2 x s o3 q hw hxj hsl
    have hx := q.1
    have hi := q.2.2.2.1
    have q6 := q.2.2.2.2.2.1
    have q3 := q.2.2.1
    have q5 := q.2.2.2.2.1
    have hmn := q.2.2.2.2.2.2.2.2.1.1
    obtain ⟨hf, hN, x3, ⟨xb, xr, xW⟩, x5⟩ := id hx
    obtain ⟨i1, i2, i3, i4, i5, i6⟩ := id hi
    have hB : B < 2 := by omega
    have hb1 : B < 2 := hB
    have hrB : cH b 4 2 = some (6 + B) := by
      show some (7 - b) = some (6 + B)
      rw [show 7 - b = 6 + B by omega]
    obtain ⟨a, v, hT⟩ : ∃ a v, tkT tx n j = (a, v) := ⟨_, _, rfl⟩
    have K := kn_r (hT ▸ CI.kn hx hi)
    have hlt : a ≠ 0 → j < W := fun z => CI.lt hx hi (by rw [hT]; exact z)
    have hpx : ∀ y : Int, (a, v) = (3, y) → a = 3 ∧ v = y := fun y w => ⟨congrArg Prod.fst w, congrArg Prod.snd w⟩
    have hW0 : j = W → a = 0 := fun z => by
      rw [← z, hT] at x5
      exact x5
    have e0 : pLP one (tkT tx n) (m + 1) l j = if tkT tx n j = (3, 42) then (match one (j + 1) with
        | .inl f => .inl f
        | .inr q => pLP one (tkT tx n) m (l ++ [(q.1, false)]) q.2)
      else if tkT tx n j = (3, 47) then (if (tkT tx n (j + 1)).1 = 1 ∧ (tkT tx n (j + 1)).2 ≠ 0 then pLP one (tkT tx n) m (l ++ [(fun _ => vN (tkT tx n (j + 1)).2 1, true)]) (j + 2) else .inl (j + 1))
      else .inr (cmbL 3 0 l, j) := rfl
    refine g_iload_n dX1_readProduct_26 rfl ?_
    refine g_sipush dX1_readProduct_27 (by decide) ?_
    refine g_icmp_ge (tgt := 143) dX1_readProduct_30 (by decide) (fun c30 => ?_) (fun c30 => ?_)
    · have hq42 : ¬ tkT tx n j = (3, 42) := fun w => by
        rw [hT] at w
        have := hpx 42 w
        omega
      have hq47 : ¬ tkT tx n j = (3, 47) := fun w => by
        rw [hT] at w
        have := hpx 47 w
        omega
      have hs2 : k2 + 2 ≤ k + 2 * (j - i) := by
        rcases hsl with z | z | z
        · exact z
        · exact absurd z hq42
        · exact absurd z hq47
      clear hsl
      rw [e0, if_neg hq42, if_neg hq47]
      clear e0
      refine g_aload_n dX1_readProduct_143 rfl ?_
      refine g_getA dX1_readProduct_144 tf_1_18 rfl rfl (crf hf hrB) ?_
      refine g_bipush dX1_readProduct_147 (by decide) ?_
      refine g_iconst dX1_readProduct_149 ⟨by decide, by decide⟩ ?_
      refine g_iconst dX1_readProduct_150 ⟨by decide, by decide⟩ ?_
      refine g_callvV dX1_readProduct_151 tm_1_92 rfl ⟨rfl, rfl⟩ (lc_b hb1) (Nat.le_of_ble_eq_true rfl) (cc0_add (by omega) s hf hB r k2 hN (by omega) i6 (by omega) _ _ _) (fun s151 h151 => ?_)
      refine g_return dX1_readProduct_154 rfl ⟨rfl, ?_⟩
      subst h151
      exact QL.qd (QL.add q hk hs2 ⟨by decide, by decide⟩ ⟨by decide, by decide⟩ ⟨by decide, by decide⟩ (by decide) (fun c _ h1 h2 => Cd.pE h2 h1))
    · refine g_aload_n dX1_readProduct_33 rfl ?_
      refine g_getI dX1_readProduct_34 tf_1_32 rfl rfl ?_
      refine g_if_ge (tgt := 143) dX1_readProduct_37 (by decide) (fun c37 => ?_) (fun c37 => ?_)
      · exfalso; omega
      · refine g_aload_n dX1_readProduct_40 rfl ?_
        refine g_getI dX1_readProduct_41 tf_1_49 rfl rfl ?_
        refine g_bipush dX1_readProduct_44 (by decide) ?_
        refine g_icmp_eq (tgt := 58) dX1_readProduct_46 (by decide) (fun c46 => ?_) (fun c46 => ?_)
        · refine g_aload_n dX1_readProduct_58 rfl ?_
          refine g_getI dX1_readProduct_59 tf_1_49 rfl rfl ?_
          refine g_bipush dX1_readProduct_62 (by decide) ?_
          refine g_icmp_ne (tgt := 71) dX1_readProduct_64 (by decide) (fun c64 => ?_) (fun c64 => ?_)
          · refine g_iconst dX1_readProduct_71 ⟨by decide, by decide⟩ ?_
            refine g_istore_n dX1_readProduct_72 (by decide) rfl ?_
            refine g_aload_n dX1_readProduct_73 rfl ?_
            refine g_aload_n dX1_readProduct_74 rfl ?_
            refine g_getI dX1_readProduct_75 tf_1_49 rfl rfl ?_
            refine g_callvV dX1_readProduct_78 tm_1_65 rfl ⟨rfl, rfl⟩ rfl (Nat.le_of_ble_eq_true rfl) (take_ok (by omega) s hx hi _ (fun _ => hlt (by omega))) (fun s78 h78 => ?_)
            have e78 := h78.1 rfl
            clear h78
            subst e78
            have hjW := hlt (by omega)
            obtain ⟨t1, t2, t3⟩ := tn_ok hx hi hjW
            have tm := tnS_o (s := s) (i := j + 1) (o := 6 + B) (j := 1) (by omega)
            refine g_iload_n dX1_readProduct_81 rfl ?_
            refine g_if_eq (tgt := 103) dX1_readProduct_82 (by decide) (fun c82 => ?_) (fun c82 => ?_)
            · have hT2 : tkT tx n j = (3, 47) := by rw [hT, show a = 3 by omega, show v = 47 by omega]
              rw [if_neg (show ¬ tkT tx n j = (3, 42) from fun w => by rw [hT2] at w; exact absurd (congrArg Prod.snd w) (by decide)), if_pos hT2] at e0
              exact cc1_prodO hd hk ih q hw hxj hT2 hjW e0
            · exfalso; omega
          · refine g_iconst dX1_readProduct_67 ⟨by decide, by decide⟩ ?_
            refine g_goto (tgt := 72) dX1_readProduct_68 (by decide) ?_
            refine g_istore_n dX1_readProduct_72 (by decide) rfl ?_
            refine g_aload_n dX1_readProduct_73 rfl ?_
            refine g_aload_n dX1_readProduct_74 rfl ?_
            refine g_getI dX1_readProduct_75 tf_1_49 rfl rfl ?_
            refine g_callvV dX1_readProduct_78 tm_1_65 rfl ⟨rfl, rfl⟩ rfl (Nat.le_of_ble_eq_true rfl) (take_ok (by omega) s hx hi _ (fun _ => hlt (by omega))) (fun s78 h78 => ?_)
            have e78 := h78.1 rfl
            clear h78
            subst e78
            have hjW := hlt (by omega)
            obtain ⟨t1, t2, t3⟩ := tn_ok hx hi hjW
            have tm := tnS_o (s := s) (i := j + 1) (o := 6 + B) (j := 1) (by omega)
            refine g_iload_n dX1_readProduct_81 rfl ?_
            refine g_if_eq (tgt := 103) dX1_readProduct_82 (by decide) (fun c82 => ?_) (fun c82 => ?_)
            · exfalso; omega
            · refine g_aload_n dX1_readProduct_85 rfl ?_
              refine g_iload_n dX1_readProduct_86 rfl ?_
              refine g_callvV dX1_readProduct_87 tm_1_96 rfl ⟨rfl, rfl⟩ rfl (Nat.le_of_ble_eq_true rfl) (hone (j + 1) k2 _ t1 t2 (by rw [tm]; exact hmn) (by omega)) (fun s87 h87 => ?_)
              have hT2 : tkT tx n j = (3, 42) := by rw [hT, show a = 3 by omega, show v = 42 by omega]
              rw [if_pos hT2] at e0
              rcases hres : one (j + 1) with f | ⟨e, j3⟩
              · rw [hres] at h87 e0
                rw [e0]
                refine g_aload_n dX1_readProduct_90 rfl ?_
                refine g_getA dX1_readProduct_91 tf_1_18 rfl rfl (crf h87.1.1 hrB) ?_
                refine g_iconst dX1_readProduct_94 ⟨by decide, by decide⟩ ?_
                refine g_iconst dX1_readProduct_95 ⟨by decide, by decide⟩ ?_
                refine g_iconst dX1_readProduct_96 ⟨by decide, by decide⟩ ?_
                refine g_callvV dX1_readProduct_97 tm_1_92 rfl ⟨rfl, rfl⟩ (lc_b hb1) (Nat.le_of_ble_eq_true rfl) (cc0_addF (by omega) s87 h87.1 h87.2.2 _ _ _) (fun s97 h97 => ?_)
                refine g_goto (tgt := 137) dX1_readProduct_100 (by decide) ?_
                refine g_iinc dX1_readProduct_137 (by decide) rfl ⟨by omega, by omega⟩ rfl rfl ?_
                refine g_goto (tgt := 26) dX1_readProduct_140 (by decide) ?_
                exact cc1_prodF (by omega) s97 h97.1 h97.2.1 (((q.2.1.z.tr (t3 0) (by omega)).tr h87.2.1 (by omega)).tr h97.2.2 (by omega))
              · rw [hres] at h87 e0
                rw [e0]
                obtain ⟨k3, p⟩ := QD.ql h87
                have p4 := p.2.2.2.1
                have p6 := p.2.2.2.2.2.1
                have p3 := p.2.2.1
                have p5 := p.2.2.2.2.1
                have pW := p4.2.2.2.2.1
                obtain ⟨g1, g2, g3, g4, g5, g6, g7, g8, g9, g10, g11⟩ := QL.part (QL.tok q (Or.inl (by rw [hT2]; decide)) (by rw [hT2]; decide) hjW) p
                refine g_aload_n dX1_readProduct_90 rfl ?_
                refine g_getA dX1_readProduct_91 tf_1_18 rfl rfl (crf p.1.1 hrB) ?_
                refine g_iconst dX1_readProduct_94 ⟨by decide, by decide⟩ ?_
                refine g_iconst dX1_readProduct_95 ⟨by decide, by decide⟩ ?_
                refine g_iconst dX1_readProduct_96 ⟨by decide, by decide⟩ ?_
                refine g_callvV dX1_readProduct_97 tm_1_92 rfl ⟨rfl, rfl⟩ (lc_b hb1) (Nat.le_of_ble_eq_true rfl) (cc0_add (by omega) s87 p.1.1 hB r k3 p.1.2.1 (by omega) p4.2.2.2.2.2 (by omega) _ _ _) (fun s97 h97 => ?_)
                subst h97
                refine g_goto (tgt := 137) dX1_readProduct_100 (by decide) ?_
                refine g_iinc dX1_readProduct_137 (by decide) rfl ⟨by omega, by omega⟩ (show (x : Int) + 1 = ((x + 1 : Nat) : Int) from by omega) rfl ?_
                refine g_goto (tgt := 26) dX1_readProduct_140 (by decide) ?_
                exact ih _ _ (k3 + 1) (x + 1) _ _ (QZ.add g1 g2 g3 g4 g5 g6 g9 g10 hk ⟨by decide, by decide⟩ ⟨by decide, by decide⟩ ⟨by decide, by decide⟩ (by decide) (fun c hc1 hc2 => Cd.pT (g7.congr (fun y y1 y2 => hc1 y y1 (by omega))) (g8.congr (fun y y1 y2 => hc1 y (by omega) y2)) hc2)) (by omega) (by omega) (Or.inl (by omega))
        · refine g_aload_n dX1_readProduct_49 rfl ?_
          refine g_getI dX1_readProduct_50 tf_1_49 rfl rfl ?_
          refine g_bipush dX1_readProduct_53 (by decide) ?_
          refine g_icmp_ne (tgt := 143) dX1_readProduct_55 (by decide) (fun c55 => ?_) (fun c55 => ?_)
          · have hq42 : ¬ tkT tx n j = (3, 42) := fun w => by
              rw [hT] at w
              have := hpx 42 w
              omega
            have hq47 : ¬ tkT tx n j = (3, 47) := fun w => by
              rw [hT] at w
              have := hpx 47 w
              omega
            have hs2 : k2 + 2 ≤ k + 2 * (j - i) := by
              rcases hsl with z | z | z
              · exact z
              · exact absurd z hq42
              · exact absurd z hq47
            clear hsl
            rw [e0, if_neg hq42, if_neg hq47]
            clear e0
            refine g_aload_n dX1_readProduct_143 rfl ?_
            refine g_getA dX1_readProduct_144 tf_1_18 rfl rfl (crf hf hrB) ?_
            refine g_bipush dX1_readProduct_147 (by decide) ?_
            refine g_iconst dX1_readProduct_149 ⟨by decide, by decide⟩ ?_
            refine g_iconst dX1_readProduct_150 ⟨by decide, by decide⟩ ?_
            refine g_callvV dX1_readProduct_151 tm_1_92 rfl ⟨rfl, rfl⟩ (lc_b hb1) (Nat.le_of_ble_eq_true rfl) (cc0_add (by omega) s hf hB r k2 hN (by omega) i6 (by omega) _ _ _) (fun s151 h151 => ?_)
            refine g_return dX1_readProduct_154 rfl ⟨rfl, ?_⟩
            subst h151
            exact QL.qd (QL.add q hk hs2 ⟨by decide, by decide⟩ ⟨by decide, by decide⟩ ⟨by decide, by decide⟩ (by decide) (fun c _ h1 h2 => Cd.pE h2 h1))
          · refine g_aload_n dX1_readProduct_58 rfl ?_
            refine g_getI dX1_readProduct_59 tf_1_49 rfl rfl ?_
            refine g_bipush dX1_readProduct_62 (by decide) ?_
            refine g_icmp_ne (tgt := 71) dX1_readProduct_64 (by decide) (fun c64 => ?_) (fun c64 => ?_)
            · refine g_iconst dX1_readProduct_71 ⟨by decide, by decide⟩ ?_
              refine g_istore_n dX1_readProduct_72 (by decide) rfl ?_
              refine g_aload_n dX1_readProduct_73 rfl ?_
              refine g_aload_n dX1_readProduct_74 rfl ?_
              refine g_getI dX1_readProduct_75 tf_1_49 rfl rfl ?_
              refine g_callvV dX1_readProduct_78 tm_1_65 rfl ⟨rfl, rfl⟩ rfl (Nat.le_of_ble_eq_true rfl) (take_ok (by omega) s hx hi _ (fun _ => hlt (by omega))) (fun s78 h78 => ?_)
              have e78 := h78.1 rfl
              clear h78
              subst e78
              have hjW := hlt (by omega)
              obtain ⟨t1, t2, t3⟩ := tn_ok hx hi hjW
              have tm := tnS_o (s := s) (i := j + 1) (o := 6 + B) (j := 1) (by omega)
              refine g_iload_n dX1_readProduct_81 rfl ?_
              refine g_if_eq (tgt := 103) dX1_readProduct_82 (by decide) (fun c82 => ?_) (fun c82 => ?_)
              · have hT2 : tkT tx n j = (3, 47) := by rw [hT, show a = 3 by omega, show v = 47 by omega]
                rw [if_neg (show ¬ tkT tx n j = (3, 42) from fun w => by rw [hT2] at w; exact absurd (congrArg Prod.snd w) (by decide)), if_pos hT2] at e0
                exact cc1_prodO hd hk ih q hw hxj hT2 hjW e0
              · exfalso; omega
            · refine g_iconst dX1_readProduct_67 ⟨by decide, by decide⟩ ?_
              refine g_goto (tgt := 72) dX1_readProduct_68 (by decide) ?_
              refine g_istore_n dX1_readProduct_72 (by decide) rfl ?_
              refine g_aload_n dX1_readProduct_73 rfl ?_
              refine g_aload_n dX1_readProduct_74 rfl ?_
              refine g_getI dX1_readProduct_75 tf_1_49 rfl rfl ?_
              refine g_callvV dX1_readProduct_78 tm_1_65 rfl ⟨rfl, rfl⟩ rfl (Nat.le_of_ble_eq_true rfl) (take_ok (by omega) s hx hi _ (fun _ => hlt (by omega))) (fun s78 h78 => ?_)
              have e78 := h78.1 rfl
              clear h78
              subst e78
              have hjW := hlt (by omega)
              obtain ⟨t1, t2, t3⟩ := tn_ok hx hi hjW
              have tm := tnS_o (s := s) (i := j + 1) (o := 6 + B) (j := 1) (by omega)
              refine g_iload_n dX1_readProduct_81 rfl ?_
              refine g_if_eq (tgt := 103) dX1_readProduct_82 (by decide) (fun c82 => ?_) (fun c82 => ?_)
              · exfalso; omega
              · refine g_aload_n dX1_readProduct_85 rfl ?_
                refine g_iload_n dX1_readProduct_86 rfl ?_
                refine g_callvV dX1_readProduct_87 tm_1_96 rfl ⟨rfl, rfl⟩ rfl (Nat.le_of_ble_eq_true rfl) (hone (j + 1) k2 _ t1 t2 (by rw [tm]; exact hmn) (by omega)) (fun s87 h87 => ?_)
                have hT2 : tkT tx n j = (3, 42) := by rw [hT, show a = 3 by omega, show v = 42 by omega]
                rw [if_pos hT2] at e0
                rcases hres : one (j + 1) with f | ⟨e, j3⟩
                · rw [hres] at h87 e0
                  rw [e0]
                  refine g_aload_n dX1_readProduct_90 rfl ?_
                  refine g_getA dX1_readProduct_91 tf_1_18 rfl rfl (crf h87.1.1 hrB) ?_
                  refine g_iconst dX1_readProduct_94 ⟨by decide, by decide⟩ ?_
                  refine g_iconst dX1_readProduct_95 ⟨by decide, by decide⟩ ?_
                  refine g_iconst dX1_readProduct_96 ⟨by decide, by decide⟩ ?_
                  refine g_callvV dX1_readProduct_97 tm_1_92 rfl ⟨rfl, rfl⟩ (lc_b hb1) (Nat.le_of_ble_eq_true rfl) (cc0_addF (by omega) s87 h87.1 h87.2.2 _ _ _) (fun s97 h97 => ?_)
                  refine g_goto (tgt := 137) dX1_readProduct_100 (by decide) ?_
                  refine g_iinc dX1_readProduct_137 (by decide) rfl ⟨by omega, by omega⟩ rfl rfl ?_
                  refine g_goto (tgt := 26) dX1_readProduct_140 (by decide) ?_
                  exact cc1_prodF (by omega) s97 h97.1 h97.2.1 (((q.2.1.z.tr (t3 0) (by omega)).tr h87.2.1 (by omega)).tr h97.2.2 (by omega))
                · rw [hres] at h87 e0
                  rw [e0]
                  obtain ⟨k3, p⟩ := QD.ql h87
                  have p4 := p.2.2.2.1
                  have p6 := p.2.2.2.2.2.1
                  have p3 := p.2.2.1
                  have p5 := p.2.2.2.2.1
                  have pW := p4.2.2.2.2.1
                  obtain ⟨g1, g2, g3, g4, g5, g6, g7, g8, g9, g10, g11⟩ := QL.part (QL.tok q (Or.inl (by rw [hT2]; decide)) (by rw [hT2]; decide) hjW) p
                  refine g_aload_n dX1_readProduct_90 rfl ?_
                  refine g_getA dX1_readProduct_91 tf_1_18 rfl rfl (crf p.1.1 hrB) ?_
                  refine g_iconst dX1_readProduct_94 ⟨by decide, by decide⟩ ?_
                  refine g_iconst dX1_readProduct_95 ⟨by decide, by decide⟩ ?_
                  refine g_iconst dX1_readProduct_96 ⟨by decide, by decide⟩ ?_
                  refine g_callvV dX1_readProduct_97 tm_1_92 rfl ⟨rfl, rfl⟩ (lc_b hb1) (Nat.le_of_ble_eq_true rfl) (cc0_add (by omega) s87 p.1.1 hB r k3 p.1.2.1 (by omega) p4.2.2.2.2.2 (by omega) _ _ _) (fun s97 h97 => ?_)
                  subst h97
                  refine g_goto (tgt := 137) dX1_readProduct_100 (by decide) ?_
                  refine g_iinc dX1_readProduct_137 (by decide) rfl ⟨by omega, by omega⟩ (show (x : Int) + 1 = ((x + 1 : Nat) : Int) from by omega) rfl ?_
                  refine g_goto (tgt := 26) dX1_readProduct_140 (by decide) ?_
                  exact ih _ _ (k3 + 1) (x + 1) _ _ (QZ.add g1 g2 g3 g4 g5 g6 g9 g10 hk ⟨by decide, by decide⟩ ⟨by decide, by decide⟩ ⟨by decide, by decide⟩ (by decide) (fun c hc1 hc2 => Cd.pT (g7.congr (fun y y1 y2 => hc1 y y1 (by omega))) (g8.congr (fun y y1 y2 => hc1 y (by omega) y2)) hc2)) (by omega) (by omega) (Or.inl (by omega))
