/-! THE CLASS: names are tied -/
def PTc (σ : am_HS) (B N : Nat) (W : Int) (k : Nat) : Int := plC (fun j => hI σ (19 + 9 * B) j) N W (hI σ (26 + 9 * B) k)
def NBc (σ : am_HS) (B N : Nat) (W : Int) (lo hi : Nat) (G : Int) : Prop := ∃ g : Nat, G = (g : Int) ∧ g < 4194304 ∧ ∀ a, hasB g a ↔ ∃ k, lo ≤ k ∧ k < hi ∧ hI σ (25 + 9 * B) k = 1 ∧ PTc σ B N W k = (a : Int)
def TIf (B : Nat) (σ s : am_HS) : Prop := s.2 = σ.2 ∧ ∀ o j, o ≠ 26 + 9 * B → o ≠ 22 + 9 * B → hI s o j = hI σ o j
def TI (σ : am_HS) (B N : Nat) (W : Int) (bf : Nat → Nat) (r K : Nat) (s : am_HS) : Prop := TIf B σ s ∧ (∀ j, hI s (26 + 9 * B) j = if j < K ∧ hI σ (25 + 9 * B) j = 1 then PTc σ B N W j else hI σ (26 + 9 * B) j) ∧ (∀ k, k < K → hI σ (25 + 9 * B) k = 1 → 0 ≤ PTc σ B N W k) ∧ ∀ q, q < r → NBc σ B N W (bf q) (bf (q + 1)) (hI s (22 + 9 * B) q)
theorem PTc_r {σ : am_HS} {B N : Nat} (hN : N ≤ 12) (hnm : ∀ j, j < N → ¬ (622 ≤ hI σ (19 + 9 * B) j ∧ hI σ (19 + 9 * B) j < 632)) (W : Int) (k : Nat) : PTc σ B N W k = -1 ∨ (0 ≤ PTc σ B N W k ∧ PTc σ B N W k < 22) := by
  rcases plC_rs (W := W) (v := hI σ (26 + 9 * B) k) hN hnm with ⟨_, z⟩ | ⟨_, z1, z2⟩
  · exact Or.inl z
  · refine Or.inr ?_
    have z1 : PTc σ B N W k = _ := z1
    omega
theorem TI.no {σ s : am_HS} {B N K r : Nat} {W : Int} {bf : Nat → Nat} (h : TI σ B N W bf r K s) (ho : hI σ (25 + 9 * B) K ≠ 1) : TI σ B N W bf r (K + 1) s := by
  obtain ⟨h1, h2, h3, h4⟩ := h
  refine ⟨h1, fun j => ?_, fun k hk hk1 => ?_, h4⟩
  · rw [h2 j]
    by_cases hj : j < K ∧ hI σ (25 + 9 * B) j = 1
    · rw [if_pos hj, if_pos ⟨by omega, hj.2⟩]
    · rw [if_neg hj, if_neg (fun z => ?_)]
      by_cases e : j = K
      · rw [e] at z
        exact ho z.2
      · exact hj ⟨by omega, z.2⟩
  · by_cases e : k = K
    · rw [e] at hk1
      exact absurd hk1 ho
    · exact h3 k (by omega) hk1
theorem NBc.no {σ : am_HS} {B N lo K : Nat} {W G : Int} (h : NBc σ B N W lo K G) (ho : hI σ (25 + 9 * B) K ≠ 1) : NBc σ B N W lo (K + 1) G := by
  obtain ⟨g, g1, g2, g3⟩ := h
  refine ⟨g, g1, g2, fun a => (g3 a).trans ⟨?_, ?_⟩⟩
  · rintro ⟨k, k1, k2, k3⟩
    exact ⟨k, k1, by omega, k3⟩
  · rintro ⟨k, k1, k2, k3⟩
    by_cases e : k = K
    · rw [e] at k3
      exact absurd k3.1 ho
    · exact ⟨k, k1, by omega, k3⟩
theorem NBc.yes {σ : am_HS} {B N lo K g a : Nat} {W : Int} (h : NBc σ B N W lo K (g : Int)) (hl : lo ≤ K) (ho : hI σ (25 + 9 * B) K = 1) (hp : PTc σ B N W K = (a : Int)) (ha : a < 22) : NBc σ B N W lo (K + 1) ((g ||| 2 ^ a : Nat) : Int) := by
  obtain ⟨g0, g1, g2, g3⟩ := h
  have e : g0 = g := by omega
  subst e
  refine ⟨_, rfl, or_lt22 g2 (pow_lt22 ha), fun x => ?_⟩
  rw [or_bit, pow_bit, g3 x]
  constructor
  · rintro (⟨k, k1, k2, k3⟩ | rfl)
    · exact ⟨k, k1, by omega, k3⟩
    · exact ⟨K, hl, by omega, ho, hp⟩
  · rintro ⟨k, k1, k2, k3, k4⟩
    by_cases e : k = K
    · rw [e, hp] at k4
      exact Or.inr (by omega)
    · exact Or.inl ⟨k, k1, by omega, k3, k4⟩
theorem TI.yes {σ s : am_HS} {B N K r a g : Nat} {W : Int} {bf : Nat → Nat} (h : TI σ B N W bf r K s) (hB : B < 2) (ho : hI σ (25 + 9 * B) K = 1) (hp : PTc σ B N W K = (a : Int)) (ha : a < 22) (hg : g < 4194304) : TI σ B N W bf r (K + 1) (uI (uI s (26 + 9 * B) K (a : Int)) (22 + 9 * B) r (g : Int)) ∧ hI (uI (uI s (26 + 9 * B) K (a : Int)) (22 + 9 * B) r (g : Int)) (22 + 9 * B) r = (g : Int) := by
  obtain ⟨h1, h2, h3, h4⟩ := h
  refine ⟨⟨⟨h1.1, fun o j z1 z2 => ?_⟩, fun j => ?_, fun k hk hk1 => ?_, fun q hq => ?_⟩, hI_uI_e ⟨by omega, by omega⟩⟩
  · rw [hI_uI_n (by omega), hI_uI_n (by omega)]
    exact h1.2 o j z1 z2
  · rw [hI_uI_n (by omega)]
    by_cases e : j = K
    · subst e
      rw [hI_uI_e ⟨by omega, by omega⟩, if_pos ⟨by omega, ho⟩, hp]
    · rw [hI_uI_n (by omega), h2 j]
      by_cases hj : j < K ∧ hI σ (25 + 9 * B) j = 1
      · rw [if_pos hj, if_pos ⟨by omega, hj.2⟩]
      · rw [if_neg hj, if_neg (fun z => hj ⟨by omega, z.2⟩)]
  · by_cases e : k = K
    · rw [e, hp]; omega
    · exact h3 k (by omega) hk1
  · rw [hI_uI_n (by omega), hI_uI_n (by omega)]
    exact h4 q hq
/-- what 'tie' answers -/
def TiQ (σ : am_HS) (B N : Nat) (W : Int) (bf : Nat → Nat) (z : Int) (s : am_HS) : Prop := (z = -1 ∧ TI σ B N W bf N (bf N) s) ∨ (∃ r, r < N ∧ z = (r : Int) ∧ TIf B σ s ∧ (∃ k, bf r ≤ k ∧ k < bf (r + 1) ∧ hI σ (25 + 9 * B) k = 1 ∧ PTc σ B N W k < 0) ∧ ∀ k, k < bf r → hI σ (25 + 9 * B) k = 1 → 0 ≤ PTc σ B N W k)
theorem cc0_tieI {d : Nat} (hd : 2 ≤ d) (σ : am_HS) {b : Nat} (hf : σ.2.2 = cH b) {B : Nat} (hB : B < 2) (N : Nat) (hN : hI σ (6 + B) 0 = (N : Int)) (hN12 : N ≤ 12) {W : Int} {bf : Nat → Nat} (hbm : ∀ k, k < N → bf k < bf (k + 1)) (hbN : bf N ≤ 1200) (hb0 : bf 0 = 0) (h20 : ∀ k, k < N → hI σ (20 + 9 * B) k = (bf k : Int) ∧ hI σ (21 + 9 * B) k = (bf (k + 1) : Int)) (hnu : ∀ k, k < bf N → hI σ (25 + 9 * B) k = 1 → -1000000 ≤ hI σ (26 + 9 * B) k ∧ hI σ (26 + 9 * B) k ≤ 1000000) (hnm : ∀ j, j < N → ¬ (622 ≤ hI σ (19 + 9 * B) j ∧ hI σ (19 + 9 * B) j < 632)) (r : Nat) (hr : r < N) (hbr : bf (r + 1) ≤ bf N) (hq : ∀ (s : am_HS) (o4 : Option am_V), TI σ B N W bf (r + 1) (bf (r + 1)) s → am_Go lc d 0 5 1 cX0_tie 2 [some (vR (some (6 + B))), some (vI W), some (vI ((r + 1 : Nat) : Int)), some (vI (bf (r + 1) : Int)), o4] [] s (qI fun z s => TiQ σ B N W bf z s)) : ∀ (m K : Nat) (s : am_HS) (o4 : Option am_V), K + m = bf (r + 1) → bf r ≤ K → TI σ B N W bf r K s → NBc σ B N W (bf r) K (hI s (22 + 9 * B) r) → am_Go lc d 0 5 1 cX0_tie 30 [some (vR (some (6 + B))), some (vI W), some (vI (r : Int)), some (vI (K : Int)), o4] [] s (qI fun z s => TiQ σ B N W bf z s) := by
  intro m
  induction m with
  | zero =>
    intro K s o4 hK hKr hT hNB
    have hf : s.2.2 = cH b := (congrArg Prod.snd hT.1.1).trans hf
    have e21 : hI s (21 + 9 * B) r = (bf (r + 1) : Int) := (hT.1.2 _ _ (by omega) (by omega)).trans (h20 r hr).2
    have hKe : K = bf (r + 1) := by omega
    have hT2 : TI σ B N W bf (r + 1) (bf (r + 1)) s := by
      rw [← hKe]
      refine ⟨hT.1, hT.2.1, hT.2.2.1, fun q hq => ?_⟩
      by_cases e : q = r
      · rw [e, ← hKe]; exact hNB
      · exact hT.2.2.2 q (by omega)
    refine g_iload_n dX0_tie_30 rfl ?_
    refine g_if_lt (tgt := 108) dX0_tie_31 (by decide) (fun c31 => ?_) (fun c31 => ?_)
    · exfalso; omega
    · refine g_iload_n dX0_tie_34 rfl ?_
      refine g_aload_n dX0_tie_35 rfl ?_
      refine g_getA dX0_tie_36 tf_0_18 (lc_b hB) rfl (crb5 hf hB) ?_
      refine g_iload_n dX0_tie_39 rfl ?_
      refine g_ialdN (r) dX0_tie_40 (lcb5 hB) (by omega) (by omega) ?_
      refine g_icmp_ge (tgt := 108) dX0_tie_41 (by decide) (fun c41 => ?_) (fun c41 => ?_)
      · refine g_iinc dX0_tie_108 (by decide) rfl ⟨by omega, by omega⟩ (show (r : Int) + 1 = ((r + 1 : Nat) : Int) from by omega) rfl ?_
        refine g_goto (tgt := 2) dX0_tie_111 (by decide) ?_
        rw [hKe]
        exact hq s _ hT2
      · exfalso; omega
  | succ m ih =>
    intro K s o4 hK hKr hT hNB
    have hfs : s.2.2 = cH b := (congrArg Prod.snd hT.1.1).trans hf
    have e21 : hI s (21 + 9 * B) r = (bf (r + 1) : Int) := (hT.1.2 _ _ (by omega) (by omega)).trans (h20 r hr).2
    have e25 : hI s (25 + 9 * B) K = hI σ (25 + 9 * B) K := hT.1.2 _ _ (by omega) (by omega)
    have e6 : hI s (6 + B) 0 = (N : Int) := (hT.1.2 _ _ (by omega) (by omega)).trans hN
    have e26 : hI s (26 + 9 * B) K = hI σ (26 + 9 * B) K := by rw [hT.2.1 K, if_neg (fun z => by omega)]
    have e19 : (fun k => hI s (19 + 9 * B) k) = (fun k => hI σ (19 + 9 * B) k) := by
      funext k
      exact hT.1.2 _ _ (by omega) (by omega)
    have hpr := PTc_r hN12 hnm W K
    refine g_iload_n dX0_tie_30 rfl ?_
    refine g_if_lt (tgt := 108) dX0_tie_31 (by decide) (fun c31 => ?_) (fun c31 => ?_)
    · exfalso; omega
    · refine g_iload_n dX0_tie_34 rfl ?_
      refine g_aload_n dX0_tie_35 rfl ?_
      refine g_getA dX0_tie_36 tf_0_18 (lc_b hB) rfl (crb5 hfs hB) ?_
      refine g_iload_n dX0_tie_39 rfl ?_
      refine g_ialdN (r) dX0_tie_40 (lcb5 hB) (by omega) (by omega) ?_
      refine g_icmp_ge (tgt := 108) dX0_tie_41 (by decide) (fun c41 => ?_) (fun c41 => ?_)
      · exfalso; omega
      · refine g_iload_n dX0_tie_44 rfl ?_
        refine g_sipush dX0_tie_45 (by decide) ?_
        refine g_icmp_ge (tgt := 108) dX0_tie_48 (by decide) (fun c48 => ?_) (fun c48 => ?_)
        · exfalso; omega
        · refine g_aload_n dX0_tie_51 rfl ?_
          refine g_getA dX0_tie_52 tf_0_30 (lc_b hB) rfl (crb9 hfs hB) ?_
          refine g_iload_n dX0_tie_55 rfl ?_
          refine g_ialdN (K) dX0_tie_56 (lcb9 hB) (by omega) (by omega) ?_
          refine g_iconst dX0_tie_57 ⟨by decide, by decide⟩ ?_
          refine g_icmp_ne (tgt := 102) dX0_tie_58 (by decide) (fun c58 => ?_) (fun c58 => ?_)
          · refine g_iinc dX0_tie_102 (by decide) rfl ⟨by omega, by omega⟩ (show (K : Int) + 1 = ((K + 1 : Nat) : Int) from by omega) rfl ?_
            refine g_goto (tgt := 30) dX0_tie_105 (by decide) ?_
            exact ih (K + 1) s _ (by omega) (by omega) (hT.no (by omega)) (hNB.no (by omega))
          · have ho : hI σ (25 + 9 * B) K = 1 := by omega
            have hv := hnu K (by omega) ho
            refine g_aload_n dX0_tie_61 rfl ?_
            refine g_aload_n dX0_tie_62 rfl ?_
            refine g_getA dX0_tie_63 tf_0_33 (lc_b hB) rfl (crb10 hfs hB) ?_
            refine g_iload_n dX0_tie_66 rfl ?_
            refine g_ialdN (K) dX0_tie_67 (lcb10 hB) (by omega) (by omega) ?_
            refine g_iload_n dX0_tie_68 rfl ?_
            refine g_callvI dX0_tie_69 tm_0_58 rfl ⟨rfl, rfl⟩ (lc_b hB) (Nat.le_of_ble_eq_true rfl) (cc0_placeOf (by omega) s hfs hB N e6 hN12 _ (by rw [e26]; exact hv) W) (fun z69 s69 h69 => ?_)
            obtain ⟨h69, e69⟩ := h69
            obtain rfl := e69.symm
            rw [e19, e26] at h69
            have h69 : z69 = PTc σ B N W K := h69
            refine g_istore dX0_tie_72 (by decide) rfl ?_
            refine g_iload dX0_tie_74 rfl ?_
            refine g_if_ge (tgt := 81) dX0_tie_76 (by decide) (fun c76 => ?_) (fun c76 => ?_)
            · obtain ⟨a, ha⟩ : ∃ a : Nat, z69 = (a : Int) := ⟨z69.toNat, by omega⟩
              subst ha
              obtain ⟨g, g1, g2, g3⟩ := hNB
              have hp := pow_lt22 (m := a) (by omega)
              refine g_aload_n dX0_tie_81 rfl ?_
              refine g_getA dX0_tie_82 tf_0_33 (lc_b hB) rfl (crb10 hfs hB) ?_
              refine g_iload_n dX0_tie_85 rfl ?_
              refine g_iload dX0_tie_86 rfl ?_
              refine g_iastN (K) dX0_tie_88 (lcb10 hB) (by omega) (by omega) ?_
              refine g_aload_n dX0_tie_89 rfl ?_
              refine g_getA dX0_tie_90 tf_0_21 (lc_b hB) rfl (crb6 hfs hB) ?_
              refine g_iload_n dX0_tie_93 rfl ?_
              refine g_dup2_11 dX0_tie_94 rfl rfl ?_
              refine g_ialdN (r) dX0_tie_95 (lcb6 hB) (by omega) (by omega) ?_
              rw [hI_uI_n (by omega), g1]
              refine g_iconst dX0_tie_96 ⟨by decide, by decide⟩ ?_
              refine g_iload dX0_tie_97 rfl ?_
              refine g_ishl dX0_tie_99 (bt_shl1 (by omega)) ?_
              refine g_ior dX0_tie_100 (bt_or (by omega) (by omega)) ?_
              refine g_iastN (r) dX0_tie_101 (lcb6 hB) (by omega) (by omega) ?_
              refine g_iinc dX0_tie_102 (by decide) rfl ⟨by omega, by omega⟩ (show (K : Int) + 1 = ((K + 1 : Nat) : Int) from by omega) rfl ?_
              refine g_goto (tgt := 30) dX0_tie_105 (by decide) ?_
              obtain ⟨y1, y2⟩ := hT.yes (g := g ||| 2 ^ a) hB ho h69.symm (by omega) (or_lt22 g2 hp)
              exact ih (K + 1) _ _ (by omega) (by omega) y1 (by rw [y2]; exact NBc.yes ⟨g, rfl, g2, g3⟩ hKr ho h69.symm (by omega))
            · refine g_iload_n dX0_tie_79 rfl ?_
              refine g_ireturn dX0_tie_80 (Or.inl rfl) ⟨_, rfl, ?_⟩
              refine Or.inr ⟨r, hr, rfl, hT.1, ⟨K, hKr, by omega, by omega, ?_⟩, fun k hk => hT.2.2.1 k (by omega)⟩
              show PTc σ B N W K < 0
              omega
theorem cc0_tie {D : Nat} (hD : 3 ≤ D) (σ : am_HS) {b : Nat} (hf : σ.2.2 = cH b) {B : Nat} (hB : B < 2) (N : Nat) (hN : hI σ (6 + B) 0 = (N : Int)) (hN12 : N ≤ 12) (W : Int) {bf : Nat → Nat} (hbm : ∀ k, k < N → bf k < bf (k + 1)) (hbN : bf N ≤ 1200) (hb0 : bf 0 = 0) (h20 : ∀ k, k < N → hI σ (20 + 9 * B) k = (bf k : Int) ∧ hI σ (21 + 9 * B) k = (bf (k + 1) : Int)) (hnu : ∀ k, k < bf N → hI σ (25 + 9 * B) k = 1 → -1000000 ≤ hI σ (26 + 9 * B) k ∧ hI σ (26 + 9 * B) k ≤ 1000000) (hnm : ∀ j, j < N → ¬ (622 ≤ hI σ (19 + 9 * B) j ∧ hI σ (19 + 9 * B) j < 632)) : am_Do lc D mX0_tie σ [vR (some (6 + B)), vI W] (qI fun z s => TiQ σ B N W bf z s) := by
  obtain ⟨d, rfl⟩ : ∃ d, D = d + 1 := ⟨D - 1, by omega⟩
  refine am_enter rfl rfl (Nat.le_of_ble_eq_true rfl) ?_
  have hcm := cf_mono hbm
  have lp : ∀ (m r : Nat) (s : am_HS) (o3 o4 : Option am_V), r + m = N → TI σ B N W bf r (bf r) s → am_Go lc d 0 5 1 cX0_tie 2 [some (vR (some (6 + B))), some (vI W), some (vI (r : Int)), o3, o4] [] s (qI fun z s => TiQ σ B N W bf z s) := by
    intro m
    induction m with
    | zero =>
      intro r s o3 o4 hr hT
      have e6 : hI s (6 + B) 0 = (N : Int) := (hT.1.2 _ _ (by omega) (by omega)).trans hN
      have hrN : r = N := by omega
      subst hrN
      refine g_iload_n dX0_tie_2 rfl ?_
      refine g_aload_n dX0_tie_3 rfl ?_
      refine g_getI dX0_tie_4 tf_0_39 (lc_b hB) rfl ?_
      refine g_icmp_ge (tgt := 114) dX0_tie_7 (by decide) (fun c7 => ?_) (fun c7 => ?_)
      · refine g_iconst dX0_tie_114 ⟨by decide, by decide⟩ ?_
        refine g_ireturn dX0_tie_115 (Or.inl rfl) ⟨_, rfl, ?_⟩
        exact Or.inl ⟨rfl, hT⟩
      · exfalso; omega
    | succ m ih =>
      intro r s o3 o4 hr hT
      have hfs : s.2.2 = cH b := (congrArg Prod.snd hT.1.1).trans hf
      have e6 : hI s (6 + B) 0 = (N : Int) := (hT.1.2 _ _ (by omega) (by omega)).trans hN
      have hbr := hcm r (by omega)
      have e20 : hI s (20 + 9 * B) r = (bf r : Int) := (hT.1.2 _ _ (by omega) (by omega)).trans (h20 r (by omega)).1
      have hT2 : TI σ B N W bf r (bf r) (uI s (22 + 9 * B) r 0) := by
        refine ⟨⟨hT.1.1, fun o j z1 z2 => (hI_uI_n (by omega)).trans (hT.1.2 o j z1 z2)⟩, fun j => (hI_uI_n (by omega)).trans (hT.2.1 j), hT.2.2.1, fun q hq => ?_⟩
        rw [hI_uI_n (by omega)]
        exact hT.2.2.2 q hq
      have hN0 : NBc σ B N W (bf r) (bf r) (hI (uI s (22 + 9 * B) r 0) (22 + 9 * B) r) := by
        rw [hI_uI_e ⟨by omega, by omega⟩]
        refine ⟨0, rfl, by decide, fun a => ⟨fun z => ?_, ?_⟩⟩
        · unfold hasB at z
          rw [Nat.zero_testBit] at z
          cases z
        · rintro ⟨k, k1, k2, _⟩
          omega
      refine g_iload_n dX0_tie_2 rfl ?_
      refine g_aload_n dX0_tie_3 rfl ?_
      refine g_getI dX0_tie_4 tf_0_39 (lc_b hB) rfl ?_
      refine g_icmp_ge (tgt := 114) dX0_tie_7 (by decide) (fun c7 => ?_) (fun c7 => ?_)
      · exfalso; omega
      · refine g_iload_n dX0_tie_10 rfl ?_
        refine g_bipush dX0_tie_11 (by decide) ?_
        refine g_icmp_ge (tgt := 114) dX0_tie_13 (by decide) (fun c13 => ?_) (fun c13 => ?_)
        · exfalso; omega
        · refine g_aload_n dX0_tie_16 rfl ?_
          refine g_getA dX0_tie_17 tf_0_21 (lc_b hB) rfl (crb6 hfs hB) ?_
          refine g_iload_n dX0_tie_20 rfl ?_
          refine g_iconst dX0_tie_21 ⟨by decide, by decide⟩ ?_
          refine g_iastN (r) dX0_tie_22 (lcb6 hB) (by omega) (by omega) ?_
          refine g_aload_n dX0_tie_23 rfl ?_
          refine g_getA dX0_tie_24 tf_0_15 (lc_b hB) rfl (crb4 hfs hB) ?_
          refine g_iload_n dX0_tie_27 rfl ?_
          refine g_ialdN (r) dX0_tie_28 (lcb4 hB) (by omega) (by omega) ?_
          rw [hI_uI_n (by omega), e20]
          refine g_istore_n dX0_tie_29 (by decide) rfl ?_
          exact cc0_tieI (by omega) σ hf hB N hN hN12 hbm hbN hb0 h20 hnu hnm r (by omega) hbr (fun s2 o5 g => ih (r + 1) s2 _ o5 (by omega) g) (bf (r + 1) - bf r) (bf r) _ _ (by have := hbm r (by omega); omega) (Nat.le_refl _) hT2 hN0
  refine g_iconst dX0_tie_0 ⟨by decide, by decide⟩ ?_
  refine g_istore_n dX0_tie_1 (by decide) rfl ?_
  refine lp N 0 σ _ _ (by omega) ⟨⟨rfl, fun _ _ _ _ => rfl⟩, fun j => (if_neg (fun z => by omega)).symm, fun k hk => by omega, fun q hq => by omega⟩
