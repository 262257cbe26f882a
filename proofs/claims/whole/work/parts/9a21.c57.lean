/-! THE CLASS: rules, whole -/
theorem RF.fc {B : Nat} {σ s : am_HS} (h : RF B σ s) (hk : RKc σ) : FrC B (uI σ 4 1 0) (uI s 4 1 0) := by
  have e56 : hI s 5 6 = hI σ 5 6 := h.2 5 6 (by unfold rdP; omega)
  refine ⟨congrArg Prod.snd h.1, hk.of (congrArg Prod.fst h.1) ((hI_uI_n (by omega)).trans e56), fun o j q => ?_⟩
  by_cases e : o = 4 ∧ j = 1
  · rw [e.1, e.2, hI_uI_e ⟨by decide, by decide⟩, hI_uI_e ⟨by decide, by decide⟩]
  · rw [hI_uI_n e, hI_uI_n e]
    exact h.2 o j (fun z => q (by unfold rdP at z; unfold chC; omega))
theorem TIf.fc {B : Nat} {τ s u : am_HS} (h : FrC B τ s) (f : TIf B s u) : FrC B τ u := ⟨(congrArg Prod.snd f.1).trans h.1, h.2.1.of (congrArg Prod.fst f.1) (f.2 5 6 (by omega) (by omega)), fun o j q => (f.2 o j (fun z => q (by unfold chC; omega)) (fun z => q (by unfold chC; omega))).trans (h.2.2 o j q)⟩
theorem cc6_rules {D : Nat} (hD : 43 ≤ D) (σ : am_HS) {b n0 : Nat} {nm0 : Nat → Int} {ev0 : Nat → Den} {ed0 : Nat → Nat → Prop} {ls0 : Prop} {W P : Nat} (hG : CG σ b n0 nm0 ev0 ed0 ls0 W P) {mk : Nat → Nat → Vl} (hm : ∀ p, p < P → mkOK σ W p (mk p)) {B : Nat} (hbB : b + B = 1) {strict : Int} (hst : strict = 0 ∨ strict = 1) (h13 : 0 ≤ hI σ 0 13 ∧ hI σ 0 13 ≤ 100000) (h41 : 0 ≤ hI σ 4 1 ∧ hI σ 4 1 ≤ 600) {tx : Nat → Int} (htx : ∀ j, tx j = hI σ 9 j % 256) (hb9 : ∀ j, -128 ≤ hI σ 9 j ∧ hI σ 9 j ≤ 127) (nn : Int) : am_Do lc D mX6_rules σ [vR (some 0), vI nn, vI strict] (qI fun z s => (nn < 0 ∧ z = -4 ∧ s = uI σ 8 4 (hI σ 8 4 + 1)) ∨ (0 ≤ nn ∧ hI σ 4 1 < nn ∧ z = -6 ∧ s = uI σ 8 6 (hI σ 8 6 + 1)) ∨ (0 ≤ nn ∧ nn ≤ hI σ 4 1 ∧ match pRA (tkT tx nn.toNat) 13 [] 0 with
  | .inl g => z = -1000 - (plT tx nn.toNat g : Int) ∧ FrC B (tfC σ) s
  | .inr acc => 0 < acc.length ∧ acc.length ≤ 12 ∧ ruQC σ B (tkT tx nn.toNat) n0 W P nm0 ev0 mk strict acc z s)) := by
  obtain ⟨hf, hb2, hg, hrg, hC0, hS0, hW, hP, hRK, hWk⟩ := id hG
  obtain ⟨g1, g2, g3⟩ := id hg
  have hB : B < 2 := by omega
  have hb1 : B < 2 := hB
  have hW10 : W ≤ 10 := by omega
  have hrB : cH b 4 2 = some (6 + B) := by
    show some (7 - b) = some (6 + B)
    rw [show 7 - b = 6 + B by omega]
  obtain ⟨d, rfl⟩ : ∃ d, D = d + 1 := ⟨D - 1, by omega⟩
  refine am_enter rfl rfl (Nat.le_of_ble_eq_true rfl) ?_
  refine g_iload_n dX6_rules_0 rfl ?_
  refine g_if_ge (tgt := 11) dX6_rules_1 (by decide) (fun c1 => ?_) (fun c1 => ?_)
  · refine g_iload_n dX6_rules_11 rfl ?_
    refine g_aload_n dX6_rules_12 rfl ?_
    refine g_getA dX6_rules_13 tf_6_28 rfl rfl (crf hf rfl) ?_
    refine g_getI dX6_rules_16 tf_6_97 rfl rfl ?_
    refine g_icmp_le (tgt := 29) dX6_rules_19 (by decide) (fun c19 => ?_) (fun c19 => ?_)
    · obtain ⟨n, hn⟩ : ∃ n : Nat, nn = (n : Int) := ⟨nn.toNat, by omega⟩
      subst hn
      have e0 : ((n : Int)).toNat = n := by omega
      have hn600 : n ≤ 600 := by omega
      refine g_aload_n dX6_rules_29 rfl ?_
      refine g_getA dX6_rules_30 tf_6_28 rfl rfl (crf hf rfl) ?_
      refine g_iload_n dX6_rules_33 rfl ?_
      refine g_callvI dX6_rules_34 tm_6_104 rfl ⟨rfl, rfl⟩ rfl (Nat.le_of_ble_eq_true rfl) (cc1_read (by omega) σ hbB hf htx hb9 n (by omega)) (fun z34 s34 h34 => ?_)
      obtain ⟨hrf, hres⟩ := h34
      have fr1 : FrC B (uI σ 4 1 0) (uI s34 4 1 0) := hrf.fc hRK
      have hf1 : (uI s34 4 1 0).2.2 = cH b := fr1.1.trans hf
      have e13 : ∀ s, FrC B (uI σ 4 1 0) s → hI s 0 13 = hI σ 0 13 := fun s f => (f.2.2 0 13 (by unfold chC; omega)).trans (hI_uI_n (by omega))
      have etf : ∀ s, FrC B (uI σ 4 1 0) s → FrC B (tfC σ) (uI s 0 13 (hI s 0 13 + 1)) := fun s f => by
        unfold tfC
        rw [e13 s f]
        exact f.u ⟨by omega, by omega⟩ (by omega)
      refine g_istore_n dX6_rules_37 (by decide) rfl ?_
      refine g_aload_n dX6_rules_38 rfl ?_
      refine g_getA dX6_rules_39 tf_6_28 rfl rfl (crf (show s34.2.2 = cH b from hf1) rfl) ?_
      refine g_iconst dX6_rules_42 ⟨by decide, by decide⟩ ?_
      refine g_putI dX6_rules_43 tf_6_97 rfl rfl rfl ?_
      refine g_aload_n dX6_rules_46 rfl ?_
      refine g_getA dX6_rules_47 tf_6_28 rfl rfl (crf (by exact hf1) rfl) ?_
      refine g_getA dX6_rules_50 tf_6_107 rfl rfl (crf hf1 hrB) ?_
      refine g_astore dX6_rules_53 (by decide) rfl ?_
      rcases hp : pRA (tkT tx n) 13 [] 0 with g | acc
      · rw [hp] at hres
        have hres : z34 = (plT tx n g : Int) := hres
        have hpl : plT tx n g ≤ n := (tkS_nx _ (psS_le _ n g)).2.2.2.2
        refine g_iload_n dX6_rules_55 rfl ?_
        refine g_if_lt (tgt := 69) dX6_rules_56 (by decide) (fun c56 => ?_) (fun c56 => ?_)
        · exfalso; omega
        · refine g_aload_n dX6_rules_59 rfl ?_
          refine g_sipush dX6_rules_60 (by decide) ?_
          refine g_iload_n dX6_rules_63 rfl ?_
          refine g_isub dX6_rules_64 rfl ⟨by omega, by omega⟩ ?_
          refine g_callvI dX6_rules_65 tm_6_108 rfl ⟨rfl, rfl⟩ rfl (Nat.le_of_ble_eq_true rfl) (cc6_refuseText (by omega) (uI s34 4 1 0) _ (by rw [e13 _ fr1]; exact h13)) (fun z65 s65 h65 => ?_)
          obtain ⟨h65, e65⟩ := h65
          subst h65
          subst e65
          refine g_ireturn dX6_rules_68 (Or.inl rfl) ⟨_, rfl, ?_⟩
          refine Or.inr (Or.inr ⟨by omega, by omega, ?_⟩)
          rw [e0, hp]
          exact ⟨by rw [hres], etf _ fr1⟩
      · rw [hp] at hres
        obtain ⟨hz0, hlen, bf, hR0, e60, e602, hb12⟩ := hres
        have hw := pRA_nm 13 [] 0 hp (fun a ha => by cases ha)
        have hR : RLs B n tx acc bf (uI s34 4 1 0) := hR0.congr (fun o j ho => hI_uI_n (by omega))
        obtain ⟨r1, r2, r3, r4, r5⟩ := rd_hyp hR hw
        have hl12 := hR.1
        have e61 : hI (uI s34 4 1 0) (6 + B) 0 = (acc.length : Int) := (hI_uI_n (by omega)).trans e60
        have e08 : hI (uI s34 4 1 0) 0 8 = (W : Int) := (fr1.2.2 0 8 (by unfold chC; omega)).trans ((hI_uI_n (by omega)).trans hW)
        refine g_iload_n dX6_rules_55 rfl ?_
        refine g_if_lt (tgt := 69) dX6_rules_56 (by decide) (fun c56 => ?_) (fun c56 => ?_)
        · refine g_aload dX6_rules_69 rfl ?_
          refine g_aload_n dX6_rules_71 rfl ?_
          refine g_getI dX6_rules_72 tf_6_64 rfl rfl ?_
          rw [e08]
          refine g_callvI dX6_rules_75 tm_6_111 rfl ⟨rfl, rfl⟩ (lc_b hB) (Nat.le_of_ble_eq_true rfl) (cc0_tie (by omega) (uI s34 4 1 0) hf1 hB acc.length e61 hR.1 (W : Int) r1 hb12 hR.2.1 r2 r3 (fun j hj => by rw [r4 j hj]; exact r5 j hj)) (fun z75 s75 h75 => ?_)
          have hT : TiQ (uI s34 4 1 0) B acc.length (W : Int) bf z75 s75 := h75
          have frT : FrC B (uI σ 4 1 0) s75 := by
            rcases hT with ⟨z1, z2⟩ | ⟨r, z1, z2, z3, z4, z5⟩
            · exact TIf.fc fr1 z2.1
            · exact TIf.fc fr1 z3
          have hz75 : z75 ≤ 12 := by
            rcases hT with ⟨q1, _⟩ | ⟨r, q1, q2, _⟩ <;> omega
          refine g_istore dX6_rules_78 (by decide) rfl ?_
          refine g_iload dX6_rules_80 rfl ?_
          refine g_if_lt (tgt := 96) dX6_rules_82 (by decide) (fun c82 => ?_) (fun c82 => ?_)
          · have hTI : TI (uI s34 4 1 0) B acc.length (W : Int) bf acc.length (bf acc.length) s75 := by
              rcases hT with ⟨z1, z2⟩ | ⟨r, z1, z2, z3, z4, z5⟩
              · exact z2
              · omega
            have hho : ∀ r, r < acc.length → ¬ hoA (tkT tx n) acc W r := fun r hr h => by
              obtain ⟨k, k1, k2, k3, k4⟩ := (ho_C hR hw hr).mpr h
              have := cf_mono r1 r hr
              exact absurd k4 (Int.not_lt.mpr (hTI.2.2.1 k (by omega) k3))
            have fr2 := frT
            have hf2 : s75.2.2 = cH b := fr2.1.trans hf
            have e62 : hI s75 (6 + B) 0 = (acc.length : Int) := (hTI.1.2 _ _ (by omega) (by omega)).trans e61
            have enm2 : ∀ j, j < acc.length → hI s75 (19 + 9 * B) j = nmA acc j := fun j hj => (hTI.1.2 _ _ (by omega) (by omega)).trans (r4 j hj)
            have etw : ∀ r, r < acc.length → (fdS (fun k => hI s75 (19 + 9 * B) k) acc.length (hI s75 (19 + 9 * B) r) < (r : Int) ↔ twA acc r) := fun r hr => by
              unfold twA
              rw [enm2 r hr, fdS_congr enm2]
            refine g_aload dX6_rules_96 rfl ?_
            refine g_callvI dX6_rules_98 tm_6_114 rfl ⟨rfl, rfl⟩ (lc_b hB) (Nat.le_of_ble_eq_true rfl) (cc0_firstTwice (by omega) s75 hf2 hB acc.length e62 hR.1) (fun z98 s98 h98 => ?_)
            obtain ⟨h98, e98⟩ := h98
            obtain rfl := e98.symm
            have hz98 : z98 ≤ 12 := by
              rcases h98 with ⟨q1, _⟩ | ⟨r, q1, q2, _⟩ <;> omega
            refine g_istore dX6_rules_101 (by decide) rfl ?_
            refine g_iload dX6_rules_103 rfl ?_
            refine g_if_lt (tgt := 119) dX6_rules_105 (by decide) (fun c105 => ?_) (fun c105 => ?_)
            · have htw : ∀ r, r < acc.length → ¬ twA acc r := by
                rcases h98 with ⟨z1, z2⟩ | ⟨r, z1, z2, _⟩
                · exact fun r hr h => z2 r hr ((etw r hr).mpr h)
                · omega
              refine (cc6_rules119 (by omega) σ hG hm hbB hst hlen hR hw hb12 hho htw s75 ⟨fr2, e62, (hTI.1.2 _ _ (by omega) (by omega)), hTI⟩ _ _ _ _).mono ?_
              rintro res u ⟨z, rfl, hz⟩
              refine ⟨z, rfl, Or.inr (Or.inr ⟨by omega, by omega, ?_⟩)⟩
              rw [e0, hp]
              exact ⟨hlen, hR.1, hz⟩
            · refine g_aload_n dX6_rules_108 rfl ?_
              refine g_sipush dX6_rules_109 (by decide) ?_
              refine g_iload dX6_rules_112 rfl ?_
              refine g_isub dX6_rules_114 rfl ⟨by omega, by omega⟩ ?_
              refine g_callvI dX6_rules_115 tm_6_108 rfl ⟨rfl, rfl⟩ rfl (Nat.le_of_ble_eq_true rfl) (cc6_refuseText (by omega) s75 _ (by rw [e13 _ fr2]; exact h13)) (fun z115 s115 h115 => ?_)
              obtain ⟨h115, e115⟩ := h115
              subst h115
              subst e115
              refine g_ireturn dX6_rules_118 (Or.inl rfl) ⟨_, rfl, ?_⟩
              rcases h98 with ⟨z1, z2⟩ | ⟨r, z1, z2, z3, z4⟩
              · omega
              · refine Or.inr (Or.inr ⟨by omega, by omega, ?_⟩)
                rw [e0, hp]
                exact ⟨hlen, hR.1, Or.inr ⟨hho, Or.inl ⟨r, z1, (etw r z1).mp z3, fun q hq h => z4 q hq ((etw q (by omega)).mpr h), by rw [z2], etf _ fr2⟩⟩⟩
          · refine g_aload_n dX6_rules_85 rfl ?_
            refine g_sipush dX6_rules_86 (by decide) ?_
            refine g_iload dX6_rules_89 rfl ?_
            refine g_isub dX6_rules_91 rfl ⟨by omega, by omega⟩ ?_
            refine g_callvI dX6_rules_92 tm_6_108 rfl ⟨rfl, rfl⟩ rfl (Nat.le_of_ble_eq_true rfl) (cc6_refuseText (by omega) s75 _ (by rw [e13 _ frT]; exact h13)) (fun z92 s92 h92 => ?_)
            obtain ⟨h92, e92⟩ := h92
            subst h92
            subst e92
            refine g_ireturn dX6_rules_95 (Or.inl rfl) ⟨_, rfl, ?_⟩
            rcases hT with ⟨z1, z2⟩ | ⟨r, z1, z2, z3, z4, z5⟩
            · omega
            · refine Or.inr (Or.inr ⟨by omega, by omega, ?_⟩)
              rw [e0, hp]
              refine ⟨hlen, hR.1, Or.inl ⟨r, z1, (ho_C hR hw z1).mp z4, fun q hq h => ?_, by rw [z2], etf _ frT⟩⟩
              obtain ⟨k, k1, k2, k3, k4⟩ := (ho_C hR hw (show q < acc.length by omega)).mpr h
              have hqr : bf (q + 1) ≤ bf r := by
                have key : ∀ m q, q + m = r → bf q ≤ bf r := fun m => by
                  induction m with
                  | zero => intro q h; rw [show q = r by omega]; exact Nat.le_refl _
                  | succ m ih => intro q h; have := ih (q + 1) (by omega); have := r1 q (by omega); omega
                exact key (r - (q + 1)) (q + 1) (by omega)
              exact absurd k4 (Int.not_lt.mpr (z5 k (by omega) k3))
        · exfalso; omega
    · refine g_aload_n dX6_rules_22 rfl ?_
      refine g_bipush dX6_rules_23 (by decide) ?_
      refine g_callvI dX6_rules_25 tm_6_55 rfl ⟨rfl, rfl⟩ rfl (Nat.le_of_ble_eq_true rfl) (cc6_refuse (by omega) σ hf _ ⟨by omega, by omega⟩ g3) (fun z25 s25 h25 => ?_)
      obtain ⟨h25, e25⟩ := h25
      subst h25
      subst e25
      refine g_ireturn dX6_rules_28 (Or.inl rfl) ⟨_, rfl, ?_⟩
      exact Or.inr (Or.inl ⟨by omega, by omega, rfl, rfl⟩)
  · refine g_aload_n dX6_rules_4 rfl ?_
    refine g_bipush dX6_rules_5 (by decide) ?_
    refine g_callvI dX6_rules_7 tm_6_55 rfl ⟨rfl, rfl⟩ rfl (Nat.le_of_ble_eq_true rfl) (cc6_refuse (by omega) σ hf _ ⟨by omega, by omega⟩ g3) (fun z7 s7 h7 => ?_)
    obtain ⟨h7, e7⟩ := h7
    subst h7
    subst e7
    refine g_ireturn dX6_rules_10 (Or.inl rfl) ⟨_, rfl, ?_⟩
    exact Or.inl ⟨by omega, rfl, rfl⟩
