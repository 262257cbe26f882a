/-! THE REFERENCE: rules, whole -/
theorem EM_EdW {oth n : Nat} {tx : Nat → Int} {acc : List RU} {cf : Nat → Nat} {s : am_HS} (h : RuK oth n tx acc cf s) (hl : acc.length ≤ 12) {W : Nat} (hcm : ∀ k, k < acc.length → cf (k + 1) ≤ cf acc.length) (k b : Nat) : EM (hoM s oth acc.length W (cf acc.length)) oth acc.length W cf k b ↔ EdW (edA (tkT tx n) acc W) acc.length W (fun w => hI s 7 w) k b := by
  unfold EM EdW
  have e7 : ∀ w, hI (hoM s oth acc.length W (cf acc.length)) 7 w = hI s 7 w := fun w => hoM_o (by omega)
  simp only [e7]
  constructor
  · rintro (⟨a, q⟩ | q)
    · exact Or.inl ⟨a, (edA_EdM h hl hcm a).mp q⟩
    · exact Or.inr q
  · rintro (⟨a, q⟩ | q)
    · exact Or.inl ⟨a, (edA_EdM h hl hcm a).mpr q⟩
    · exact Or.inr q
theorem FrK_hs {oth : Nat} {τ s : am_HS} (h : FrK oth τ s) (G : Nat → Nat) : FrK oth τ (hs28 s G) := h.fr (FrM_hs s G)
theorem rules_y {d : Nat} (hD : 771 ≤ d) {σ : am_HS} {N oth n n0 W P : Nat} {nm0 : Nat → Int} {ev0 : Nat → Den} {ed0 : Nat → Nat → Prop} {ls0 : Prop} {strict : Int} (hst : strict = 0 ∨ strict = 1) (hNo : N + oth = 1) (hf0 : σ.2.2 = mH) (hb0 : rgM σ) (hrf9 : ∀ k, k < 8 → 0 ≤ hI σ 1 k ∧ hI σ 1 k ≤ 90000) (h7 : 0 ≤ hI σ 0 7 ∧ hI σ 0 7 ≤ 100000) (hnow : hI σ 0 42 = (N : Int)) (hB0 : MB N n0 nm0 ev0 ed0 ls0 σ) (hS0 : BkS n0 ev0 ed0) (hP : hI σ 0 1 = (P : Int)) (hP6 : P ≤ 6) (hW : hI σ 0 2 = (W : Int)) (hW10 : W ≤ 10) {acc : List RU} (hlen : 0 < acc.length) (hl : acc.length ≤ 12) (hno : ∀ r, r < acc.length → ¬ hoA (TkA σ n) acc W r) (htw : ∀ r, r < acc.length → ¬ twA acc r) {cf : Nat → Nat} {tx : Nat → Int} (htx : tx = (fun j => hI σ 16 j)) (s1 : am_HS) (hR : RuI oth n tx acc cf s1) (hc16 : cf acc.length ≤ 1600) (fk1 : FrK oth (uI σ 0 23 0) s1) (h43 : hI s1 0 43 = (oth : Int)) (o3 o4 : Option am_V) (x5 : Int) (o6 : Option am_V) : am_Go lm d 7 7 1 cX7_rules 108 [some (vR (some 0)), some (vI (n : Int)), some (vI strict), o3, o4, some (vI x5), o6] [] (hoM s1 oth acc.length W (cf acc.length)) (qI fun z s => ruQ σ oth n n0 W P nm0 ev0 strict acc z s) := by
  have hrf : ∀ k, k < 8 → 0 ≤ hI σ 1 k ∧ hI σ 1 k ≤ 100000 := fun k hk => by have := hrf9 k hk; omega
  subst htx
  have fk2 : FrK oth (uI σ 0 23 0) (hoM s1 oth acc.length W (cf acc.length)) := hoM_fk fk1 hl hc16
  obtain ⟨hK, -, h23, hc0, hcf, h26, hls⟩ := id hR
  have hcm := cf_mono hcf
  have hf : ((hoM s1 oth acc.length W (cf acc.length))).2.2 = mH := fk2.1
  have g43 : hI (hoM s1 oth acc.length W (cf acc.length)) 0 43 = (oth : Int) := (hoM_o (by omega)).trans h43
  have hcl : ∀ k, k ≤ acc.length → cf k ≤ 1600 := by
    intro k hk
    rcases Nat.lt_or_ge k acc.length with q | q
    · have := hcm k q
      have := hcf k q
      omega
    · have : k = acc.length := by omega
      rw [this]; exact hc16
  have e7 : ∀ w, hI s1 7 w = hI σ 7 w := fun w => fk_c fk1 (keepA (by decide) (by decide)) (by unfold bkc; omega) (by omega)
  have hrgi : (∃ k, k < 22 ∧ rch (EM (hoM s1 oth acc.length W (cf acc.length)) oth acc.length W cf) 22 k k) ↔ rgA σ n W acc := by
    have e : ∀ k b, EM (hoM s1 oth acc.length W (cf acc.length)) oth acc.length W cf k b ↔ EdW (edA (TkA σ n) acc W) acc.length W (fun w => hI σ 7 w) k b := fun k b => by
      rw [EM_EdW hK hl hcm]
      simp only [e7]
    constructor
    · rintro ⟨k, k1, k2⟩
      exact ⟨k, k1, (rch_congr e 22 k k).mp k2⟩
    · rintro ⟨k, k1, k2⟩
      exact ⟨k, k1, (rch_congr e 22 k k).mpr k2⟩
  have gr : ∀ k, k < 8 → hI (hoM s1 oth acc.length W (cf acc.length)) 1 k = hI σ 1 k := fun k hk => fk_c fk2 (keepA (by decide) (by decide)) (by unfold bkc; omega) (by omega)
  have g2 : hI (hoM s1 oth acc.length W (cf acc.length)) 0 2 = (W : Int) := (fk_c fk2 (keepF (by decide)) (by unfold bkc; omega) (by omega)).trans hW
  have g7 : ∀ w, hI (hoM s1 oth acc.length W (cf acc.length)) 7 w = hI σ 7 w := fun w => fk_c fk2 (keepA (by decide) (by decide)) (by unfold bkc; omega) (by omega)
  have g23 : hI (hoM s1 oth acc.length W (cf acc.length)) 23 oth = (acc.length : Int) := (hoM_o (by omega)).trans h23
  have hFH := fun (D : Nat) (hDD : 2 ≤ D) => cm_findHangs hDD (hoM s1 oth acc.length W (cf acc.length)) hf fk2.2.1 oth acc.length W cf (by omega) g23 hl (fun k hk => ⟨(hoM_o (by omega)).trans (h26 hlen k hk), hcl k hk⟩) (fun r hr => Nat.le_of_lt (hcf r hr)) g2 hW10 (fun r k hr k1 k2 k3 => by
    rw [hoM_o (by omega)] at k3
    obtain ⟨v1, v2⟩ := ho_val hK hl hcm hno hr k1 k2 k3
    rw [v1]
    rcases v2 with v2 | v2
    · exact Or.inl ⟨v2.1, by omega⟩
    · exact Or.inr v2)
  generalize hs2 : hoM s1 oth acc.length W (cf acc.length) = s2 at *
  refine g_aload_n dX7_rules_108 rfl ?_
  refine g_aload_n dX7_rules_109 rfl ?_
  refine g_getI dX7_rules_110 tf_7_207 rfl rfl ?_
  rw [g43]
  refine g_callvV dX7_rules_113 tm_7_277 rfl ⟨rfl, rfl⟩ rfl (Nat.le_of_ble_eq_true rfl) (hFH _ (by omega)) (fun s113 h113 => ?_)
  obtain ⟨G, rfl, hG, hB⟩ := h113
  have hf2 : (hs28 s2 G).2.2 = mH := hf
  have hf := hf2
  have fk3 := FrK_hs fk2 G
  have hiff : (∃ k, k < 22 ∧ hasB (G k) k) ↔ rgA σ n W acc := by
    rw [← hrgi]
    exact ⟨fun ⟨k, h1, h2⟩ => ⟨k, h1, (hB k h1 k).mp h2⟩, fun ⟨k, h1, h2⟩ => ⟨k, h1, (hB k h1 k).mpr h2⟩⟩
  have gr3 : ∀ k, k < 8 → hI (hs28 s2 G) 1 k = hI σ 1 k := fun k hk => (hs28_o (by omega)).trans (gr k hk)
  refine g_aload_n dX7_rules_116 rfl ?_
  refine g_callvI dX7_rules_117 tm_7_280 rfl ⟨rfl, rfl⟩ rfl (Nat.le_of_ble_eq_true rfl) (cm_isRing (by omega) s2 (by exact hf2) G hG) (fun z117 s117 h117 => ?_)
  obtain ⟨h117, e117⟩ := h117
  obtain rfl := e117
  rw [hiff] at h117
  refine g_if_eq (tgt := 130) dX7_rules_120 (by decide) (fun c120 => ?_) (fun c120 => ?_)
  · have hrg : ¬ rgA σ n W acc := by
      rcases h117 with ⟨a, b⟩ | ⟨a, b⟩
      · exact absurd (a.symm.trans c120) (by decide)
      · exact b
    clear h117
    obtain ⟨ρ, r1, r2⟩ := rank_of hrg
    have hρ : ∃ ρ : Nat → Nat, (∀ r, r < acc.length → ρ r < 12) ∧ ∀ r r', r < acc.length → r' < acc.length → edA (TkA σ n) acc W r r' → ρ r' < ρ r := ⟨ρ, fun r hr => r1 r (by omega), fun r r' h1 h2 h3 => r2 r r' (by omega) (by omega) (Or.inl ⟨h1, h3⟩)⟩
    have hM := MB_of hR hlen (by omega) hc16 (W := (W : Int)) hno hρ
    rw [hs2] at hM
    have hM3 := (FrM_hs s2 G).mb hM
    have hSk := BkS_of hK hl hno hρ
    have k43 : hI (hs28 s2 G) 0 43 = (oth : Int) := (hs28_o (by omega)).trans g43
    have k2 : hI (hs28 s2 G) 0 2 = (W : Int) := (hs28_o (by omega)).trans g2
    have k7 : ∀ w, hI (hs28 s2 G) 7 w = hI σ 7 w := fun w => (hs28_o (by omega)).trans (g7 w)
    have k23 : hI (hs28 s2 G) 23 oth = (acc.length : Int) := (hs28_o (by omega)).trans g23
    generalize hs28 s2 G = s3 at *
    have loop : ∀ (m w : Nat), w + m = W → (∀ q, q < w → ¬ (acc.length : Int) ≤ hI σ 7 q) → am_Go lm d 7 7 1 cX7_rules 133 [some (vR (some 0)), some (vI (n : Int)), some (vI strict), o3, o4, some (vI x5), some (vI (w : Int))] [] s3 (qI fun z s => ruQ σ oth n n0 W P nm0 ev0 strict acc z s) := by
      intro m
      induction m with
      | zero =>
        intro w hw hall
        have ew : w = W := by omega
        subst ew
        refine g_iload dX7_rules_133 rfl ?_
        refine g_aload_n dX7_rules_135 rfl ?_
        refine g_getI dX7_rules_136 tf_7_145 rfl rfl ?_
        refine g_icmp_ge (tgt := 174) dX7_rules_139 (by decide) (fun c139 => ?_) (fun c139 => ?_)
        · exact rules_z hD hst hNo hf0 hb0 hrf9 h7 hnow hB0 hS0 hP hP6 hW hW10 hlen hl hno htw hrg (fun ⟨w, a, b⟩ => hall w a b) s3 fk3 k43 hM3 hSk _ _ _ _
        · exfalso; omega
      | succ m ih =>
        intro w hw hall
        refine g_iload dX7_rules_133 rfl ?_
        refine g_aload_n dX7_rules_135 rfl ?_
        refine g_getI dX7_rules_136 tf_7_145 rfl rfl ?_
        refine g_icmp_ge (tgt := 174) dX7_rules_139 (by decide) (fun c139 => ?_) (fun c139 => ?_)
        · exfalso; omega
        · refine g_aload_n dX7_rules_142 rfl ?_
          refine g_getA dX7_rules_143 tf_7_28 rfl rfl (mrf hf rfl) ?_
          refine g_iload dX7_rules_146 rfl ?_
          refine g_ialdN (w) dX7_rules_148 rfl (by omega) (by omega) ?_
          rw [k7]
          refine g_aload_n dX7_rules_149 rfl ?_
          refine g_getA dX7_rules_150 tf_7_77 rfl rfl (mrf hf rfl) ?_
          refine g_aload_n dX7_rules_153 rfl ?_
          refine g_getI dX7_rules_154 tf_7_207 rfl rfl ?_
          rw [k43]
          refine g_ialdN (oth) dX7_rules_157 rfl (by omega) (by omega) ?_
          rw [k23]
          refine g_icmp_lt (tgt := 168) dX7_rules_158 (by decide) (fun c158 => ?_) (fun c158 => ?_)
          · refine g_iinc dX7_rules_168 (by decide) rfl ⟨by omega, by omega⟩ (show (w : Int) + 1 = ((w + 1 : Nat) : Int) from by omega) rfl ?_
            refine g_goto (tgt := 133) dX7_rules_171 (by decide) ?_
            refine ih (w + 1) (by omega) (fun q hq => ?_)
            rcases Nat.lt_or_ge q w with g | g
            · exact hall q g
            · have : q = w := by omega
              subst this
              omega
          · refine g_aload_n dX7_rules_161 rfl ?_
            refine g_bipush dX7_rules_162 (by decide) ?_
            refine g_callvI dX7_rules_164 tm_7_133 rfl ⟨rfl, rfl⟩ rfl (Nat.le_of_ble_eq_true rfl) (cm_refuse (by omega) s3 hf _ ⟨by omega, by omega⟩ (fun k hk => by rw [gr3 k hk]; exact hrf k hk)) (fun z164 s164 h164 => ?_)
            obtain ⟨rfl, rfl⟩ := h164
            refine g_ireturn dX7_rules_167 (Or.inl rfl) ⟨_, rfl, ?_⟩
            refine Or.inr ⟨hno, Or.inr ⟨htw, Or.inr ⟨hrg, Or.inl ⟨⟨w, by omega, by omega⟩, rfl, ?_⟩⟩⟩⟩
            rw [show (-(-3 : Int)).toNat = 3 from rfl, gr3 3 (by decide)]
            have := hrf9 3 (by decide)
            exact fk3.u ⟨by omega, by omega⟩ ⟨by show (0 : Int) ≤ _; omega, by show _ ≤ (100000 : Int); omega⟩
    refine g_iconst dX7_rules_130 ⟨by decide, by decide⟩ ?_
    refine g_istore dX7_rules_131 (by decide) rfl ?_
    exact loop W 0 (by omega) (fun q hq => absurd hq (Nat.not_lt_zero _))
  · refine g_aload_n dX7_rules_123 rfl ?_
    refine g_bipush dX7_rules_124 (by decide) ?_
    refine g_callvI dX7_rules_126 tm_7_133 rfl ⟨rfl, rfl⟩ rfl (Nat.le_of_ble_eq_true rfl) (cm_refuse (by omega) (hs28 s2 G) hf _ ⟨by omega, by omega⟩ (fun k hk => by rw [gr3 k hk]; exact hrf k hk)) (fun z126 s126 h126 => ?_)
    obtain ⟨rfl, rfl⟩ := h126
    refine g_ireturn dX7_rules_129 (Or.inl rfl) ⟨_, rfl, ?_⟩
    have hring : rgA σ n W acc := by
      rcases h117 with ⟨a, b⟩ | ⟨a, b⟩
      · exact b
      · exact absurd a c120
    refine Or.inr ⟨hno, Or.inr ⟨htw, Or.inl ⟨hring, rfl, ?_⟩⟩⟩
    rw [show (-(-5 : Int)).toNat = 5 from rfl, gr3 5 (by decide)]
    have := hrf9 5 (by decide)
    exact fk3.u ⟨by omega, by omega⟩ ⟨by show (0 : Int) ≤ _; omega, by show _ ≤ (100000 : Int); omega⟩
theorem rules_x {d : Nat} (hD : 771 ≤ d) {σ : am_HS} {N oth n n0 W P : Nat} {nm0 : Nat → Int} {ev0 : Nat → Den} {ed0 : Nat → Nat → Prop} {ls0 : Prop} {strict : Int} (hst : strict = 0 ∨ strict = 1) (hNo : N + oth = 1) (hf0 : σ.2.2 = mH) (hb0 : rgM σ) (hrf9 : ∀ k, k < 8 → 0 ≤ hI σ 1 k ∧ hI σ 1 k ≤ 90000) (h7 : 0 ≤ hI σ 0 7 ∧ hI σ 0 7 ≤ 100000) (hnow : hI σ 0 42 = (N : Int)) (hB0 : MB N n0 nm0 ev0 ed0 ls0 σ) (hS0 : BkS n0 ev0 ed0) (hP : hI σ 0 1 = (P : Int)) (hP6 : P ≤ 6) (hW : hI σ 0 2 = (W : Int)) (hW10 : W ≤ 10) {acc : List RU} (hlen : 0 < acc.length) (hl : acc.length ≤ 12) {cf : Nat → Nat} {tx : Nat → Int} (htx : tx = (fun j => hI σ 16 j)) (s1 : am_HS) (hR : RuI oth n tx acc cf s1) (hc16 : cf acc.length ≤ 1600) (fk1 : FrK oth (uI σ 0 23 0) s1) (h43 : hI s1 0 43 = (oth : Int)) (o3 o4 o5 o6 : Option am_V) : am_Go lm d 7 7 1 cX7_rules 64 [some (vR (some 0)), some (vI (n : Int)), some (vI strict), o3, o4, o5, o6] [] s1 (qI fun z s => ruQ σ oth n n0 W P nm0 ev0 strict acc z s) := by
  obtain ⟨hK, -, h23, hc0, hcf, h26, hls⟩ := id hR
  have hcm := cf_mono hcf
  have hf := fk1.1
  have hcl : ∀ k, k ≤ acc.length → cf k ≤ 1600 := by
    intro k hk
    rcases Nat.lt_or_ge k acc.length with q | q
    · have := hcm k q
      have := hcf k q
      omega
    · have : k = acc.length := by omega
      rw [this]; exact hc16
  have g2 : hI s1 0 2 = (W : Int) := (fk_c fk1 (keepF (by decide)) (by unfold bkc; omega) (by omega)).trans hW
  have hnums : ∀ j, hI s1 17 j = 1 → 1600 * oth ≤ j → j < 1600 * oth + cf acc.length → -1000000 ≤ hI s1 18 j ∧ hI s1 18 j ≤ 1000000 := by
    intro j j1 j2 j3
    obtain ⟨r, hr, hr2, hr3⟩ : ∃ r, r < acc.length ∧ cf r ≤ j - 1600 * oth ∧ j - 1600 * oth < cf (r + 1) := by
      have key : ∀ m, m ≤ acc.length → j - 1600 * oth < cf m → ∃ r, r < m ∧ cf r ≤ j - 1600 * oth ∧ j - 1600 * oth < cf (r + 1) := by
        intro m
        induction m with
        | zero => intro _ h; omega
        | succ m ih =>
          intro hm h
          rcases Nat.lt_or_ge (j - 1600 * oth) (cf m) with q | q
          · obtain ⟨r, a, b, c⟩ := ih (by omega) q
            exact ⟨r, by omega, b, c⟩
          · exact ⟨m, by omega, q, h⟩
      exact key acc.length (Nat.le_refl _) (by omega)
    obtain ⟨-, -, -, -, hN⟩ := hK r _ (auN_get hr)
    obtain ⟨l, l1, l2, l3, l4⟩ := hN.1 j (by omega) (by omega) j1
    have hn := tkT_nam (tx := tx) (n := n) (i := l) (by rw [l3])
    rw [l3] at hn
    have hn : 0 ≤ hI s1 18 j ∧ hI s1 18 j ≤ 531440 := hn
    omega
  have fk2 : FrK oth (uI σ 0 23 0) (hoM s1 oth acc.length W (cf acc.length)) := hoM_fk fk1 hl hc16
  have g43 : hI (hoM s1 oth acc.length W (cf acc.length)) 0 43 = (oth : Int) := (hoM_o (by omega)).trans h43
  have g23 : hI (hoM s1 oth acc.length W (cf acc.length)) 23 oth = (acc.length : Int) := (hoM_o (by omega)).trans h23
  have g07 : hI (hoM s1 oth acc.length W (cf acc.length)) 0 7 = hI σ 0 7 := fk_c fk2 (keepF (by decide)) (by unfold bkc; omega) (by omega)
  have g24 : (fun k => hI (hoM s1 oth acc.length W (cf acc.length)) 24 (12 * oth + k)) = (fun k => hI s1 24 (12 * oth + k)) := funext fun k => hoM_o (by omega)
  have htwi : ∀ r, r < acc.length → (fdS (fun k => hI (hoM s1 oth acc.length W (cf acc.length)) 24 (12 * oth + k)) acc.length (hI (hoM s1 oth acc.length W (cf acc.length)) 24 (12 * oth + r)) < (r : Int) ↔ twA acc r) := by
    intro r hr
    have e1 : hI (hoM s1 oth acc.length W (cf acc.length)) 24 (12 * oth + r) = nmA acc r := (hoM_o (by omega)).trans (hK.nm r hr)
    unfold twA
    rw [e1, g24, fdS_congr (nm := nmA acc) (fun j hj => hK.nm j hj)]
  have hhoi : ∀ r, r < acc.length → (hlM s1 oth acc.length W (cf r) (cf (r + 1)) ↔ hoA (TkA σ n) acc W r) := fun r hr => by
    have := hl_ho hK (W := (W : Int)) hr
    rw [htx] at this
    exact this
  have tfr : ∀ (z : Int), FrK oth (tfM σ) (uI (hoM s1 oth acc.length W (cf acc.length)) 0 7 (hI (hoM s1 oth acc.length W (cf acc.length)) 0 7 + 1)) := fun z => by
    rw [g07]
    exact fk2.u ⟨by omega, by omega⟩ (rg_free (by omega) ⟨by omega, by omega⟩)
  refine g_aload_n dX7_rules_64 rfl ?_
  refine g_callvI dX7_rules_65 tm_7_271 rfl ⟨rfl, rfl⟩ rfl (Nat.le_of_ble_eq_true rfl) (cm_holes (by omega) s1 hf h43 (by omega) h23 hl (W : Int) g2 cf hcf hcl (h26 hlen) hnums hc0) (fun z65 s65 h65 => ?_)
  obtain ⟨hz, rfl⟩ := h65
  have hf2 := fk2.1
  have hf := hf2
  have hzr : (z65 = -1 ∧ ∀ r, r < acc.length → ¬ hoA (TkA σ n) acc W r) ∨ (∃ r, r < acc.length ∧ z65 = (r : Int) ∧ hoA (TkA σ n) acc W r ∧ ∀ q, q < r → ¬ hoA (TkA σ n) acc W q) := by
    rcases hz with ⟨a, b, -⟩ | ⟨q, a, b, c, e⟩ | ⟨a, ⟨k, k1, k2, -⟩, -⟩
    · exact Or.inl ⟨a, fun r hr h => b r hr ((hhoi r hr).mpr h)⟩
    · exact Or.inr ⟨q, a, b, (hhoi q a).mp c, fun p hp h => e p hp ((hhoi p (by omega)).mpr h)⟩
    · omega
  clear hz
  refine g_istore dX7_rules_68 (by decide) rfl ?_
  refine g_iload dX7_rules_70 rfl ?_
  refine g_if_lt (tgt := 86) dX7_rules_72 (by decide) (fun c72 => ?_) (fun c72 => ?_)
  · refine g_aload_n dX7_rules_86 rfl ?_
    refine g_callvI dX7_rules_87 tm_7_274 rfl ⟨rfl, rfl⟩ rfl (Nat.le_of_ble_eq_true rfl) (cm_twice (by omega) _ hf g43 (by omega) g23 hl) (fun z87 s87 h87 => ?_)
    obtain ⟨ht, rfl⟩ := h87
    have htr : (z87 = -1 ∧ ∀ r, r < acc.length → ¬ twA acc r) ∨ (∃ r, r < acc.length ∧ z87 = (r : Int) ∧ twA acc r ∧ ∀ q, q < r → ¬ twA acc q) := by
      rcases ht with ⟨a, b⟩ | ⟨q, a, b, c, e⟩
      · exact Or.inl ⟨a, fun r hr h => b r hr ((htwi r hr).mpr h)⟩
      · exact Or.inr ⟨q, a, b, (htwi q a).mp c, fun p hp h => e p hp ((htwi p (by omega)).mpr h)⟩
    clear ht
    refine g_istore dX7_rules_90 (by decide) rfl ?_
    refine g_iload dX7_rules_92 rfl ?_
    refine g_if_lt (tgt := 108) dX7_rules_94 (by decide) (fun c94 => ?_) (fun c94 => ?_)
    · rcases hzr with ⟨-, hno⟩ | ⟨r, a, b, -⟩
      · rcases htr with ⟨-, htw⟩ | ⟨r, a, b, -⟩
        · exact rules_y hD hst hNo hf0 hb0 hrf9 h7 hnow hB0 hS0 hP hP6 hW hW10 hlen hl hno htw htx s1 hR hc16 fk1 h43 _ _ _ _
        · exfalso; omega
      · exfalso; omega
    · refine g_aload_n dX7_rules_97 rfl ?_
      refine g_sipush dX7_rules_98 (by decide) ?_
      refine g_iload dX7_rules_101 rfl ?_
      have z87r : z87 = -1 ∨ (0 ≤ z87 ∧ z87 < 12) := htr.elim (fun q => Or.inl q.1) (fun ⟨r, a, b, _⟩ => Or.inr (by rw [b]; omega))
      refine g_isub dX7_rules_103 rfl (by clear hzr htr; exact ⟨by omega, by omega⟩) ?_
      refine g_callvI dX7_rules_104 tm_7_268 rfl ⟨rfl, rfl⟩ rfl (Nat.le_of_ble_eq_true rfl) (cm_refusesText (by omega) _ _ (by rw [g07]; exact h7)) (fun z104 s104 h104 => ?_)
      obtain ⟨rfl, rfl⟩ := h104
      refine g_ireturn dX7_rules_107 (Or.inl rfl) ⟨_, rfl, ?_⟩
      rcases hzr with ⟨-, hno⟩ | ⟨r, a, b, -⟩
      · rcases htr with ⟨a, -⟩ | ⟨r, a, b, c, e⟩
        · exfalso; omega
        · exact Or.inr ⟨hno, Or.inl ⟨r, a, c, e, by omega, tfr 0⟩⟩
      · exfalso; omega
  · refine g_aload_n dX7_rules_75 rfl ?_
    refine g_sipush dX7_rules_76 (by decide) ?_
    refine g_iload dX7_rules_79 rfl ?_
    have z65r : z65 = -1 ∨ (0 ≤ z65 ∧ z65 < 12) := hzr.elim (fun q => Or.inl q.1) (fun ⟨r, a, b, _⟩ => Or.inr (by rw [b]; omega))
    refine g_isub dX7_rules_81 rfl (by clear hzr; exact ⟨by omega, by omega⟩) ?_
    refine g_callvI dX7_rules_82 tm_7_268 rfl ⟨rfl, rfl⟩ rfl (Nat.le_of_ble_eq_true rfl) (cm_refusesText (by omega) _ _ (by rw [g07]; exact h7)) (fun z82 s82 h82 => ?_)
    obtain ⟨rfl, rfl⟩ := h82
    refine g_ireturn dX7_rules_85 (Or.inl rfl) ⟨_, rfl, ?_⟩
    rcases hzr with ⟨a, -⟩ | ⟨r, a, b, c, e⟩
    · exfalso; omega
    · exact Or.inl ⟨r, a, c, e, by omega, tfr 0⟩
theorem cm_rules {D : Nat} (hD : 772 ≤ D) {σ : am_HS} {N oth n0 W P : Nat} {nm0 : Nat → Int} {ev0 : Nat → Den} {ed0 : Nat → Nat → Prop} {ls0 : Prop} {strict : Int} (hst : strict = 0 ∨ strict = 1) (hNo : N + oth = 1) (hf0 : σ.2.2 = mH) (hb0 : rgM σ) (hrf9 : ∀ k, k < 8 → 0 ≤ hI σ 1 k ∧ hI σ 1 k ≤ 90000) (h7 : 0 ≤ hI σ 0 7 ∧ hI σ 0 7 ≤ 100000) (hnow : hI σ 0 42 = (N : Int)) (hB0 : MB N n0 nm0 ev0 ed0 ls0 σ) (hS0 : BkS n0 ev0 ed0) (hP : hI σ 0 1 = (P : Int)) (hP6 : P ≤ 6) (hW : hI σ 0 2 = (W : Int)) (hW10 : W ≤ 10) (h23 : 0 ≤ hI σ 0 23 ∧ hI σ 0 23 ≤ 600) (nn : Int) : am_Do lm D mX7_rules σ [vR (some 0), vI nn, vI strict] (qI fun z s => (nn < 0 ∧ z = -4 ∧ s = uI σ 1 4 (hI σ 1 4 + 1)) ∨ (0 ≤ nn ∧ hI σ 0 23 < nn ∧ z = -6 ∧ s = uI σ 1 6 (hI σ 1 6 + 1)) ∨ (0 ≤ nn ∧ nn ≤ hI σ 0 23 ∧ match rdA σ nn.toNat with
  | .inl g => z = -1000 - (plT (fun j => hI σ 16 j) nn.toNat g : Int) ∧ FrK oth (tfM σ) s
  | .inr acc => 0 < acc.length ∧ acc.length ≤ 12 ∧ ruQ σ oth nn.toNat n0 W P nm0 ev0 strict acc z s)) := by
  obtain ⟨d, rfl⟩ : ∃ d, D = d + 1 := ⟨D - 1, by omega⟩
  refine am_enter rfl rfl (Nat.le_of_ble_eq_true rfl) ?_
  have hrf : ∀ k, k < 8 → 0 ≤ hI σ 1 k ∧ hI σ 1 k ≤ 100000 := fun k hk => by have := hrf9 k hk; omega
  have hf := hf0
  have ro : rI (oth : Int) := ⟨by omega, by omega⟩
  have r0 : rI 0 := ⟨by decide, by decide⟩
  refine g_iload_n dX7_rules_0 rfl ?_
  refine g_if_ge (tgt := 11) dX7_rules_1 (by decide) (fun c1 => ?_) (fun c1 => ?_)
  · refine g_iload_n dX7_rules_11 rfl ?_
    refine g_aload_n dX7_rules_12 rfl ?_
    refine g_getI dX7_rules_13 tf_7_166 rfl rfl ?_
    refine g_icmp_le (tgt := 26) dX7_rules_16 (by decide) (fun c16 => ?_) (fun c16 => ?_)
    · refine g_aload_n dX7_rules_26 rfl ?_
      refine g_iconst dX7_rules_27 ⟨by decide, by decide⟩ ?_
      refine g_aload_n dX7_rules_28 rfl ?_
      refine g_getI dX7_rules_29 tf_7_148 rfl rfl ?_
      rw [hnow]
      refine g_isub dX7_rules_32 rfl ⟨by omega, by omega⟩ ?_
      rw [show (1 : Int) - (N : Int) = (oth : Int) from by omega]
      refine g_putI dX7_rules_33 tf_7_207 rfl rfl rfl ?_
      obtain ⟨n, rfl⟩ : ∃ q : Nat, nn = (q : Int) := ⟨nn.toNat, by omega⟩
      simp only [Int.toNat_natCast]
      have hb1 : rgM (uI σ 0 43 (oth : Int)) := hb0.u (rg_free (by omega) ro)
      have e43 : hI (uI σ 0 43 (oth : Int)) 0 43 = (oth : Int) := hI_uI_e ro
      have e16 : (fun j => hI (uI σ 0 43 (oth : Int)) 16 j) = (fun j => hI σ 16 j) := funext fun j => hI_uI_n (by omega)
      have f43 : FrM σ (uI σ 0 43 (oth : Int)) := FrM_uI (by unfold keepM; omega)
      refine g_aload_n dX7_rules_36 rfl ?_
      refine g_iload_n dX7_rules_37 rfl ?_
      refine g_callvI dX7_rules_38 tm_7_265 rfl ⟨rfl, rfl⟩ rfl (Nat.le_of_ble_eq_true rfl) (cm_parses (by omega) (uI σ 0 43 (oth : Int)) hf hb1 e43 (by omega) (by omega)) (fun z38 s38 h38 => ?_)
      obtain ⟨q1, q2, q3⟩ := h38
      rw [e16] at q3
      show am_Go _ _ _ _ _ _ _ _ _ _ _
      refine g_istore_n dX7_rules_41 (by decide) rfl ?_
      refine g_aload_n dX7_rules_42 rfl ?_
      refine g_iconst dX7_rules_43 ⟨by decide, by decide⟩ ?_
      refine g_putI dX7_rules_44 tf_7_166 rfl rfl rfl ?_
      refine g_iload_n dX7_rules_47 rfl ?_
      have hf2 : s38.2.2 = mH := by rw [q1.1]; exact hf
      have h43s : hI s38 0 43 = (oth : Int) := (q1.2 0 43 (by unfold scQ; omega)).trans e43
      have fk1 : FrK oth (uI σ 0 23 0) (uI s38 0 23 0) := by
        refine ⟨hf2, q2.u (rg_free (by omega) r0), fun o k k1 k2 => ?_⟩
        rw [hI_uI_x r0, hI_uI_x r0]
        split
        · rfl
        · rw [q1.2 o k (fun g => by unfold scQ at g; unfold keepM at k1; unfold bkc at k2; omega)]
          exact f43.2 o k k1
      have k43 : hI (uI s38 0 23 0) 0 43 = (oth : Int) := (hI_uI_n (by omega)).trans h43s
      have k07 : hI (uI s38 0 23 0) 0 7 = hI σ 0 7 := fk_c fk1 (keepF (by decide)) (by unfold bkc; omega) (by omega)
      refine g_if_ne (tgt := 64) dX7_rules_48 (by decide) (fun c48 => ?_) (fun c48 => ?_)
      · have hz1 : z38 ≠ 0 := c48
        rcases hrd : rdA σ n with g | acc
        · rw [show pRA (tkT (fun j => hI σ 16 j) n) 13 [] 0 = Sum.inl g from hrd] at q3
          exact absurd q3.1 hz1
        · rw [show pRA (tkT (fun j => hI σ 16 j) n) 13 [] 0 = Sum.inr acc from hrd] at q3
          obtain ⟨-, hlen, cf, hR, hc16⟩ := q3
          have hl := hR.2.1
          have hR2 : RuI oth n (fun j => hI σ 16 j) acc cf (uI s38 0 23 0) := by
            obtain ⟨a1, a2, a3, a4, a5, a6, a7⟩ := hR
            refine ⟨RuI_up a1 (cf_mono a5) (fun o j b1 b2 b3 b4 => hI_uI_n (by omega)) (fun k hk => ⟨hI_uI_n (by omega), hI_uI_n (by omega)⟩), a2, (hI_uI_n (by omega)).trans a3, a4, a5, fun b k hk => (hI_uI_n (by omega)).trans (a6 b k hk), ?_⟩
            rw [hI_uI_n (by omega)]
            exact a7
          refine am_Go.mono (rules_x (by omega) hst hNo hf0 hb0 hrf9 h7 hnow hB0 hS0 hP hP6 hW hW10 hlen hl rfl _ hR2 hc16 fk1 k43 _ _ _ _) (fun _ _ ⟨z, h1, h2⟩ => ⟨z, h1, Or.inr (Or.inr ⟨by omega, by omega, hlen, hl, h2⟩)⟩)
      · have hz1 : z38 = 0 := Classical.not_not.mp c48
        rcases hrd : rdA σ n with g | acc
        · rw [show pRA (tkT (fun j => hI σ 16 j) n) 13 [] 0 = Sum.inl g from hrd] at q3
          obtain ⟨-, p29⟩ := q3
          have hpl : plT (fun j => hI σ 16 j) n g ≤ n := (tkS_nx _ (psS_le _ n g)).2.2.2.2
          have hpl2 : (plT (fun j => hI σ 16 j) n g : Int) ≤ 600 := by omega
          refine g_aload_n dX7_rules_51 rfl ?_
          refine g_sipush dX7_rules_52 (by decide) ?_
          refine g_aload_n dX7_rules_55 rfl ?_
          refine g_getI dX7_rules_56 tf_7_190 rfl rfl ?_
          rw [show hI (uI s38 0 23 0) 0 29 = hI s38 0 29 from hI_uI_n (by omega), p29]
          refine g_isub dX7_rules_59 rfl ⟨by omega, by omega⟩ ?_
          refine g_callvI dX7_rules_60 tm_7_268 rfl ⟨rfl, rfl⟩ rfl (Nat.le_of_ble_eq_true rfl) (cm_refusesText (by omega) _ _ (by rw [k07]; exact h7)) (fun z60 s60 h60 => ?_)
          obtain ⟨rfl, rfl⟩ := h60
          refine g_ireturn dX7_rules_63 (Or.inl rfl) ⟨_, rfl, ?_⟩
          refine Or.inr (Or.inr ⟨by omega, by omega, rfl, ?_⟩)
          rw [k07]
          exact fk1.u ⟨by omega, by omega⟩ (rg_free (by omega) ⟨by omega, by omega⟩)
        · rw [show pRA (tkT (fun j => hI σ 16 j) n) 13 [] 0 = Sum.inr acc from hrd] at q3
          exact absurd (hz1.symm.trans q3.1) (by decide)
    · refine g_aload_n dX7_rules_19 rfl ?_
      refine g_bipush dX7_rules_20 (by decide) ?_
      refine g_callvI dX7_rules_22 tm_7_133 rfl ⟨rfl, rfl⟩ rfl (Nat.le_of_ble_eq_true rfl) (cm_refuse (by omega) σ hf _ ⟨by omega, by omega⟩ hrf) (fun z22 s22 h22 => ?_)
      obtain ⟨rfl, rfl⟩ := h22
      refine g_ireturn dX7_rules_25 (Or.inl rfl) ⟨_, rfl, ?_⟩
      first
        | exact Or.inl ⟨by omega, rfl, rfl⟩
        | exact Or.inr (Or.inl ⟨by omega, by omega, rfl, rfl⟩)
  · refine g_aload_n dX7_rules_4 rfl ?_
    refine g_bipush dX7_rules_5 (by decide) ?_
    refine g_callvI dX7_rules_7 tm_7_133 rfl ⟨rfl, rfl⟩ rfl (Nat.le_of_ble_eq_true rfl) (cm_refuse (by omega) σ hf _ ⟨by omega, by omega⟩ hrf) (fun z7 s7 h7 => ?_)
    obtain ⟨rfl, rfl⟩ := h7
    refine g_ireturn dX7_rules_10 (Or.inl rfl) ⟨_, rfl, ?_⟩
    first
      | exact Or.inl ⟨by omega, rfl, rfl⟩
      | exact Or.inr (Or.inl ⟨by omega, by omega, rfl, rfl⟩)
