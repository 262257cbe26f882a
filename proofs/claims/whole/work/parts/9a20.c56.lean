/-! THE CLASS: rules -/
/-- what reading a text may change in all -/
def chC (B o j : Nat) : Prop := (o = 4 ∧ 6 ≤ j) ∨ (10 ≤ o ∧ o ≤ 12) ∨ (16 ≤ o ∧ o ≤ 18) ∨ (o = 5 ∧ j = 6) ∨ o = 6 + B ∨ (19 + 9 * B ≤ o ∧ o ≤ 27 + 9 * B)
def FrI (B : Nat) (τ s : am_HS) : Prop := RKc s ∧ ∀ o j, ¬ chC B o j → hI s o j = hI τ o j
def FrC (B : Nat) (τ s : am_HS) : Prop := s.2.2 = τ.2.2 ∧ FrI B τ s
theorem FrC.u {B : Nat} {τ s : am_HS} (h : FrC B τ s) {o j : Nat} {x : Int} (hx : rI x) (ho : ¬ (o = 5 ∧ j = 6)) : FrC B (uI τ o j x) (uI s o j x) := by
  obtain ⟨h1, ⟨⟨X, hX⟩, c, c1, c2⟩, h3⟩ := h
  refine ⟨h1, ⟨⟨X, hX.congr (fun a ha => rfl)⟩, c, (hI_uI_n (by omega)).trans c1, c2⟩, fun a b q => ?_⟩
  by_cases e : a = o ∧ b = j
  · rw [e.1, e.2, hI_uI_e hx, hI_uI_e hx]
  · rw [hI_uI_n e, hI_uI_n e]
    exact h3 a b q
theorem FrC.r {B : Nat} {τ s u : am_HS} (h : FrC B τ s) (f : FrR s u) (k : RKc u) : FrC B τ u := ⟨f.1.trans h.1, k, fun o j q => (f.2 o j (fun z => q (by unfold chC; omega))).trans (h.2.2 o j q)⟩
theorem RKc.of {σ s : am_HS} (h : RKc σ) (h2 : s.2.1 = σ.2.1) (h6 : hI s 5 6 = hI σ 5 6) : RKc s := by
  obtain ⟨⟨X, hX⟩, c, c1, c2⟩ := h
  exact ⟨⟨X, hX.congr (fun a ha => by unfold hL; rw [h2])⟩, c, h6.trans c1, c2⟩
theorem wvC_of {σ s : am_HS} (e : ∀ o j, 37 ≤ o → hI s o j = hI σ o j) (k w : Nat) : wvC s k w = wvC σ k w := by
  unfold wvC shC
  simp only [e _ _ (show 37 ≤ 47 + 4 * k by omega), e _ _ (show 37 ≤ 37 + w by omega), e _ _ (show 37 ≤ 47 + 4 * k + 1 by omega), e _ _ (show 37 ≤ 47 + 4 * k + 2 by omega), e _ _ (show 37 ≤ 47 + 4 * k + 3 by omega)]
theorem CG.c {σ s : am_HS} {b B n : Nat} {nm : Nat → Int} {ev : Nat → Den} {ed : Nat → Nat → Prop} {ls : Prop} {W P : Nat} (h : CG σ b n nm ev ed ls W P) (hb : b + B = 1) (f : FrC B (uI σ 4 1 0) s) : CG s b n nm ev ed ls W P := by
  obtain ⟨h1, h2, ⟨g1, g2, g3⟩, h4, h5, h6, h7, h8, h9, h10⟩ := h
  have e : ∀ o j, ¬ chC B o j → ¬ (o = 4 ∧ j = 1) → hI s o j = hI σ o j := fun o j q q2 => (f.2.2 o j q).trans (hI_uI_n q2)
  have e7 : hI s 0 7 = hI σ 0 7 := e 0 7 (by unfold chC; omega) (by omega)
  have e8 : hI s 0 8 = hI σ 0 8 := e 0 8 (by unfold chC; omega) (by omega)
  refine ⟨f.1.trans h1, h2, ⟨by rw [e7]; exact g1, by rw [e8]; exact g2, fun j hj => by rw [e 8 j (by unfold chC; omega) (by omega)]; exact g3 j hj⟩, h4.of (fun o j ho => e o j (by unfold chC; omega) (by omega)), h5.of (fun o k hk => e o k (by unfold cbc at hk; unfold chC; omega) (by unfold cbc at hk; omega)), h6, e8.trans h7, e7.trans h8, f.2.1, h10⟩
theorem mkOK.c {σ s : am_HS} {B W p : Nat} {mk : Nat → Vl} (h : mkOK σ W p mk) (hB : B < 2) (f : FrC B (uI σ 4 1 0) s) : mkOK s W p mk := ⟨h.1, fun w hw => by
  rw [wvC_of (fun o j ho => (f.2.2 o j (by unfold chC; omega)).trans (hI_uI_n (by omega)))]
  exact h.2 w hw⟩
def tfC (σ : am_HS) : am_HS := uI (uI σ 4 1 0) 0 13 (hI σ 0 13 + 1)
def rfC (σ : am_HS) (k : Nat) : am_HS := uI (uI σ 4 1 0) 8 k (hI σ 8 k + 1)
def rgAC_ (σ : am_HS) (T : Nat → Int × Int) (W : Nat) (acc : List RU) : Prop := ∃ k, k < 22 ∧ rch (EdW (edA T acc W) acc.length W (fun w => hI σ (37 + w) 4)) 22 k k
def lsAC (n0 W P : Nat) (nm0 : Nat → Int) (ev0 : Nat → Den) (mk : Nat → Nat → Vl) (acc : List RU) : Prop := ∃ p r, p < P ∧ r < acc.length ∧ lsP nm0 (nmA acc) n0 (fun q => rvC n0 ev0 (mk q)) (fun q => rvC acc.length (evA acc W) (mk q)) p r
/-- what 'rules' comes to, of a text that was read -/
def ruQC (σ : am_HS) (B : Nat) (T : Nat → Int × Int) (n0 W P : Nat) (nm0 : Nat → Int) (ev0 : Nat → Den) (mk : Nat → Nat → Vl) (strict : Int) (acc : List RU) (z : Int) (s : am_HS) : Prop :=
  (∃ r, r < acc.length ∧ hoA T acc W r ∧ (∀ q, q < r → ¬ hoA T acc W q) ∧ z = -2000 - (r : Int) ∧ FrC B (tfC σ) s) ∨
  ((∀ r, r < acc.length → ¬ hoA T acc W r) ∧
    ((∃ r, r < acc.length ∧ twA acc r ∧ (∀ q, q < r → ¬ twA acc q) ∧ z = -3000 - (r : Int) ∧ FrC B (tfC σ) s) ∨
    ((∀ r, r < acc.length → ¬ twA acc r) ∧
      ((rgAC_ σ T W acc ∧ z = -5 ∧ FrC B (rfC σ 5) s) ∨
      (¬ rgAC_ σ T W acc ∧
        (((∃ w, w < W ∧ (acc.length : Int) ≤ hI σ (37 + w) 4) ∧ z = -3 ∧ FrC B (rfC σ 3) s) ∨
        (¬ (∃ w, w < W ∧ (acc.length : Int) ≤ hI σ (37 + w) 4) ∧
          ((strict ≠ 0 ∧ lsAC n0 W P nm0 ev0 mk acc ∧ z = -7 ∧ FrC B (rfC σ 7) s) ∨
          (¬ (strict ≠ 0 ∧ lsAC n0 W P nm0 ev0 mk acc) ∧ z = (acc.length : Int) ∧ s.2.2 = cH B ∧ FrI B (uI σ 4 1 0) s ∧ CB B acc.length (nmA acc) (evA acc W) (edA T acc W) (LsR T acc) s ∧ BkS acc.length (evA acc W) (edA T acc W)))))))))) 
/-- behind 'tie', where there was no hole -/
def RTd (σ : am_HS) (B W n : Nat) (tx : Nat → Int) (acc : List RU) (bf : Nat → Nat) (s1 s : am_HS) : Prop := FrC B (uI σ 4 1 0) s ∧ hI s (6 + B) 0 = (acc.length : Int) ∧ hI s (6 + B) 1 = hI s1 (6 + B) 1 ∧ TI s1 B acc.length (W : Int) bf acc.length (bf acc.length) s
theorem cc6_rules179 {d : Nat} (hd : 3 ≤ d) (σ : am_HS) {b B n0 W P : Nat} {nm0 : Nat → Int} {ev0 : Nat → Den} {mk : Nat → Nat → Vl} (hbB : b + B = 1) (hf : σ.2.2 = cH b) {T : Nat → Int × Int} {acc : List RU} {strict : Int} (hh : ∀ r, r < acc.length → ¬ hoA T acc W r) (ht : ∀ r, r < acc.length → ¬ twA acc r) (hg : ¬ rgAC_ σ T W acc) (hn : ¬ (∃ w, w < W ∧ (acc.length : Int) ≤ hI σ (37 + w) 4)) (hl : ¬ (strict ≠ 0 ∧ lsAC n0 W P nm0 ev0 mk acc)) (s : am_HS) (fr : FrC B (uI σ 4 1 0) s) (hC : CB B acc.length (nmA acc) (evA acc W) (edA T acc W) (LsR T acc) s) (hS : BkS acc.length (evA acc W) (edA T acc W)) (x1 x3 x5 x6 : Int) : am_Go lc d 6 7 1 cX6_rules 179 [some (vR (some 0)), some (vI x1), some (vI strict), some (vI x3), some (vR (some (6 + B))), some (vI x5), some (vI x6)] [] s (qI fun z s => ruQC σ B T n0 W P nm0 ev0 mk strict acc z s) := by
  have hB : B < 2 := by omega
  have hb2 : b < 2 := by omega
  have hfs : s.2.2 = cH b := fr.1.trans hf
  refine g_aload_n dX6_rules_179 rfl ?_
  refine g_getA dX6_rules_180 tf_6_28 rfl rfl (crf hfs rfl) ?_
  refine g_aload_n dX6_rules_183 rfl ?_
  refine g_getA dX6_rules_184 tf_6_42 rfl rfl (crf hfs rfl) ?_
  refine g_putR dX6_rules_187 tf_6_107 rfl rfl rfl ?_
  refine g_aload_n dX6_rules_190 rfl ?_
  refine g_aload dX6_rules_191 rfl ?_
  refine g_putR dX6_rules_193 tf_6_42 rfl rfl rfl ?_
  refine g_aload_n dX6_rules_196 rfl ?_
  refine g_getA dX6_rules_197 tf_6_42 rfl rfl hR_uR_e ?_
  refine g_getI dX6_rules_200 tf_6_122 (lc_b hB) rfl ?_
  refine g_ireturn dX6_rules_203 (Or.inl rfl) ⟨_, rfl, ?_⟩
  refine Or.inr ⟨hh, Or.inr ⟨ht, Or.inr ⟨hg, Or.inr ⟨hn, Or.inr ⟨hl, ?_, cH_swap hbB hfs, ⟨fr.2.1.of rfl rfl, fun o j q => fr.2.2 o j q⟩, ?_, hS⟩⟩⟩⟩⟩
  · exact hC.2.2.1
  · exact hC.of (fun o k _ => rfl)
theorem cc6_rules119 {d : Nat} (hd : 10 ≤ d) (σ : am_HS) {b n0 : Nat} {nm0 : Nat → Int} {ev0 : Nat → Den} {ed0 : Nat → Nat → Prop} {ls0 : Prop} {W P : Nat} (hG : CG σ b n0 nm0 ev0 ed0 ls0 W P) {mk : Nat → Nat → Vl} (hm : ∀ p, p < P → mkOK σ W p (mk p)) {B : Nat} (hbB : b + B = 1) {n : Nat} {tx : Nat → Int} {acc : List RU} {bf : Nat → Nat} {strict : Int} (hst : strict = 0 ∨ strict = 1) (hlen : 0 < acc.length) {s1 : am_HS} (hR : RLs B n tx acc bf s1) (hw : ∀ a ∈ acc, wkS a.1 < 0) (hb12 : bf acc.length ≤ 1200) (hh : ∀ r, r < acc.length → ¬ hoA (tkT tx n) acc W r) (ht : ∀ r, r < acc.length → ¬ twA acc r) (s : am_HS) (hT : RTd σ B W n tx acc bf s1 s) (x1 x3 x5 x6 : Int) : am_Go lc d 6 7 1 cX6_rules 119 [some (vR (some 0)), some (vI x1), some (vI strict), some (vI x3), some (vR (some (6 + B))), some (vI x5), some (vI x6)] [] s (qI fun z s => ruQC σ B (tkT tx n) n0 W P nm0 ev0 mk strict acc z s) := by
  obtain ⟨fr, e6, em, hTI⟩ := hT
  have hG2 := hG.c hbB fr
  obtain ⟨hf, hb2, hg, hrg, hC0, hS0, hW, hP, hRK, hWk⟩ := id hG2
  obtain ⟨g1, g2, g3⟩ := id hg
  have hB : B < 2 := by omega
  have hl12 := hR.1
  have hW10 : W ≤ 10 := by omega
  have hNB := nbk_C hR hw hTI hh
  obtain ⟨r1, r2, r3, r4, r5⟩ := rd_hyp hR hw
  have hed : ∀ r x, r < acc.length → edA (tkT tx n) acc W r x → x < acc.length ∨ (12 ≤ x ∧ x < 22) := fun r x hr h => edA_r hl12 hh hr h
  have end_ : (fun w => hI s (37 + w) 4) = (fun w => hI σ (37 + w) 4) := funext fun w => (fr.2.2 _ _ (by unfold chC; omega)).trans (hI_uI_n (by omega))
  have hrg2 := ring_r (nd := fun w => hI s (37 + w) 4) (W := W) hl12 hed
  have erf : ∀ k, k < 8 → FrC B (rfC σ k) (uI s 8 k (hI s 8 k + 1)) := fun k hk => by
    have e : hI s 8 k = hI σ 8 k := (fr.2.2 8 k (by unfold chC; omega)).trans (hI_uI_n (by omega))
    unfold rfC
    rw [e]
    have := g3 k hk
    rw [e] at this
    exact fr.u ⟨by omega, by omega⟩ (by omega)
  refine g_aload_n dX6_rules_119 rfl ?_
  refine g_aload dX6_rules_120 rfl ?_
  refine g_callvI dX6_rules_122 tm_6_118 rfl ⟨rfl, rfl⟩ rfl (Nat.le_of_ble_eq_true rfl) (cc6_hasRing (by omega) s hf hB acc.length e6 hl12 W hW hW10 hNB hed) (fun z122 s122 h122 => ?_)
  obtain ⟨h122, e122⟩ := h122
  obtain rfl := e122.symm
  refine g_if_eq (tgt := 135) dX6_rules_125 (by decide) (fun c125 => ?_) (fun c125 => ?_)
  · refine g_aload_n dX6_rules_135 rfl ?_
    refine g_aload dX6_rules_136 rfl ?_
    refine g_getI dX6_rules_138 tf_6_122 (lc_b hB) rfl ?_
    rw [e6]
    refine g_callvI dX6_rules_141 tm_6_125 rfl ⟨rfl, rfl⟩ rfl (Nat.le_of_ble_eq_true rfl) (cc6_needsBeyond (by omega) s hf W hW hW10 _) (fun z141 s141 h141 => ?_)
    obtain ⟨h141, e141⟩ := h141
    obtain rfl := e141.symm
    refine g_if_eq (tgt := 154) dX6_rules_144 (by decide) (fun c144 => ?_) (fun c144 => ?_)
    · have hno : ¬ rgAC_ σ (tkT tx n) W acc := fun z => by
        have z2 := (hrg2.mp (by rw [end_]; exact z))
        rcases h122 with ⟨y1, y2⟩ | ⟨y1, y2⟩
        · omega
        · exact y2 z2
      have hnb : ¬ (∃ w, w < W ∧ (acc.length : Int) ≤ hI σ (37 + w) 4) := fun z => by
        rcases h141 with ⟨y1, y2⟩ | ⟨y1, y2⟩
        · omega
        · obtain ⟨w, w1, w2⟩ := z
          exact y2 ⟨w, w1, by rw [congrFun end_ w]; exact w2⟩
      obtain ⟨ρ, ρ1, ρ2⟩ := rank_C (nd := fun w => hI σ (37 + w) 4) hl12 hno
      have hSk := bks_C hR hw hh ⟨ρ, ρ1, ρ2⟩
      refine g_aload dX6_rules_154 rfl ?_
      refine g_callvV dX6_rules_156 tm_6_128 rfl ⟨rfl, rfl⟩ (lc_b hB) (Nat.le_of_ble_eq_true rfl) (cc0_arrange (by omega) s hf hB acc.length e6 hl12 hNB hed ρ2) (fun s156 h156 => ?_)
      obtain ⟨⟨a1, a2⟩, a3, a4⟩ := h156
      have fr5 : FrC B (uI σ 4 1 0) s156 := ⟨(congrArg Prod.snd a1).trans fr.1, fr.2.1.of (congrArg Prod.fst a1) (a2 5 6 (by omega) (by omega)), fun o j q => (a2 o j (fun z => q (by unfold chC; omega)) (fun z => q (by unfold chC; omega))).trans (fr.2.2 o j q)⟩
      have ecd : cdT s156 B = cdT s B := by
        funext k
        unfold cdT
        rw [a2 _ _ (by omega) (by omega), a2 _ _ (by omega) (by omega), a2 _ _ (by omega) (by omega)]
      have hCB : CB B acc.length (nmA acc) (evA acc W) (edA (tkT tx n) acc W) (LsR (tkT tx n) acc) s156 := by
        refine ⟨hB, hl12, (a2 _ _ (by omega) (by omega)).trans e6, fun r hr => ?_, ?_, fun r hr => ?_, a3, a4, bf, fun k hk => ?_⟩
        · rw [a2 _ _ (by omega) (by omega), hTI.1.2 _ _ (by omega) (by omega)]
          exact r4 r hr
        · rw [a2 _ _ (by omega) (by omega), em]
          exact hR.2.2.2
        · obtain ⟨g, q1, q2⟩ := hNB r hr
          exact ⟨g, (a2 _ _ (by omega) (by omega)).trans q1, q2⟩
        · have h20 := r2 k hk
          have hbk := cf_mono r1 k hk
          obtain ⟨c1, c2⟩ := cd_C hB hR hw hTI hh hk
          refine ⟨⟨?_, ?_, by omega⟩, _, ?_, c2⟩
          · rw [a2 _ _ (by omega) (by omega), hTI.1.2 _ _ (by omega) (by omega)]; exact h20.1
          · rw [a2 _ _ (by omega) (by omega), hTI.1.2 _ _ (by omega) (by omega)]; exact h20.2
          · rw [ecd]; exact c1
      have hG5 := hG.c hbB fr5
      have hf5 : s156.2.2 = cH b := hG5.1
      have hWk2 : ∀ r a, r < acc.length → edA (tkT tx n) acc W r (12 + a) → a < W := fun r a hr h => edW_lt h hl12 (hh r hr)
      refine g_iload_n dX6_rules_159 rfl ?_
      refine g_if_eq (tgt := 179) dX6_rules_160 (by decide) (fun c160 => ?_) (fun c160 => ?_)
      · exact cc6_rules179 (by omega) σ hbB hG.1 hh ht hno hnb (fun z => z.1 (by omega)) s156 fr5 hCB hSk _ _ _ _
      · refine g_aload_n dX6_rules_163 rfl ?_
        refine g_aload dX6_rules_164 rfl ?_
        refine g_callvI dX6_rules_166 tm_6_131 rfl ⟨rfl, rfl⟩ rfl (Nat.le_of_ble_eq_true rfl) (cc6_lessens (by omega) s156 hG5 (fun p hp => (hm p hp).c hB fr5) hCB hSk hWk2) (fun z166 s166 h166 => ?_)
        obtain ⟨h166, lf, lk⟩ := h166
        have fr6 := fr5.r lf lk
        have hf6 : s166.2.2 = cH b := lf.1.trans hf5
        have g36 : ∀ k, k < 8 → 0 ≤ hI s166 8 k ∧ hI s166 8 k ≤ 100000 := fun k hk => by
          rw [lf.2 8 k (by omega)]
          exact hG5.2.2.1.2.2 k hk
        refine g_if_eq (tgt := 179) dX6_rules_169 (by decide) (fun c169 => ?_) (fun c169 => ?_)
        · exact cc6_rules179 (by omega) σ hbB hG.1 hh ht hno hnb (fun z => h166.elim (fun w => by omega) (fun w => w.2 z.2)) s166 fr6 (lf.cb hCB) hSk _ _ _ _
        · refine g_aload_n dX6_rules_172 rfl ?_
          refine g_bipush dX6_rules_173 (by decide) ?_
          refine g_callvI dX6_rules_175 tm_6_55 rfl ⟨rfl, rfl⟩ rfl (Nat.le_of_ble_eq_true rfl) (cc6_refuse (by omega) s166 hf6 _ ⟨by omega, by omega⟩ g36) (fun z175 s175 h175 => ?_)
          obtain ⟨h175, e175⟩ := h175
          subst h175
          subst e175
          refine g_ireturn dX6_rules_178 (Or.inl rfl) ⟨_, rfl, ?_⟩
          have e7 : hI s166 8 7 = hI σ 8 7 := (fr6.2.2 8 7 (by unfold chC; omega)).trans (hI_uI_n (by omega))
          have g7 := hG.2.2.1.2.2 7 (by decide)
          refine Or.inr ⟨hh, Or.inr ⟨ht, Or.inr ⟨hno, Or.inr ⟨hnb, Or.inl ⟨by omega, h166.elim (fun z => z.2) (fun z => by omega), rfl, ?_⟩⟩⟩⟩⟩
          unfold rfC
          show FrC B _ (uI s166 8 7 (hI s166 8 7 + 1))
          rw [e7]
          exact fr6.u ⟨by omega, by omega⟩ (by omega)
    · refine g_aload_n dX6_rules_147 rfl ?_
      refine g_bipush dX6_rules_148 (by decide) ?_
      refine g_callvI dX6_rules_150 tm_6_55 rfl ⟨rfl, rfl⟩ rfl (Nat.le_of_ble_eq_true rfl) (cc6_refuse (by omega) s hf _ ⟨by omega, by omega⟩ g3) (fun z150 s150 h150 => ?_)
      obtain ⟨h150, e150⟩ := h150
      subst h150
      subst e150
      refine g_ireturn dX6_rules_153 (Or.inl rfl) ⟨_, rfl, ?_⟩
      have hno : ¬ rgAC_ σ (tkT tx n) W acc := fun z => by
        have z2 := (hrg2.mp (by rw [end_]; exact z))
        rcases h122 with ⟨y1, y2⟩ | ⟨y1, y2⟩
        · omega
        · exact y2 z2
      refine Or.inr ⟨hh, Or.inr ⟨ht, Or.inr ⟨hno, Or.inl ⟨?_, rfl, erf 3 (by decide)⟩⟩⟩⟩
      rcases h141 with ⟨y1, w, w1, w2⟩ | ⟨y1, y2⟩
      · exact ⟨w, w1, by rw [← congrFun end_ w]; exact w2⟩
      · omega
  · refine g_aload_n dX6_rules_128 rfl ?_
    refine g_bipush dX6_rules_129 (by decide) ?_
    refine g_callvI dX6_rules_131 tm_6_55 rfl ⟨rfl, rfl⟩ rfl (Nat.le_of_ble_eq_true rfl) (cc6_refuse (by omega) s hf _ ⟨by omega, by omega⟩ g3) (fun z131 s131 h131 => ?_)
    obtain ⟨h131, e131⟩ := h131
    subst h131
    subst e131
    refine g_ireturn dX6_rules_134 (Or.inl rfl) ⟨_, rfl, ?_⟩
    refine Or.inr ⟨hh, Or.inr ⟨ht, Or.inl ⟨?_, rfl, erf 5 (by decide)⟩⟩⟩
    have z2 : ∃ r, r < acc.length ∧ rch (EdW (edA (tkT tx n) acc W) acc.length W (fun w => hI s (37 + w) 4)) 22 r r := h122.elim (fun z => z.2) (fun z => by omega)
    have z3 := hrg2.mpr z2
    rw [end_] at z3
    exact z3
