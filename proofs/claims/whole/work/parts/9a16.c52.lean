/-! THE CLASS: range -/
theorem rgL_ex (P : Nat → Prop) : ∀ k, ∃ L, rgL P k L
  | 0 => ⟨[], rfl⟩
  | k + 1 => by
    obtain ⟨L, h⟩ := rgL_ex P k
    by_cases q : P k
    · exact ⟨L ++ [k], Or.inl ⟨q, L, h, rfl⟩⟩
    · exact ⟨L, Or.inr ⟨q, h⟩⟩
theorem rgL_up {P : Nat → Prop} {k : Nat} {L : List Nat} (h : rgL P k L) (hP : ∀ w, P w → w < k) : ∀ m, rgL P (k + m) L
  | 0 => h
  | m + 1 => Or.inr ⟨fun z => absurd (hP (k + m) z) (Nat.not_lt.mpr (Nat.le_add_right k m)), rgL_up h hP m⟩
theorem rgL_congr {P R : Nat → Prop} (h : ∀ w, P w ↔ R w) : ∀ {k : Nat} {L : List Nat}, rgL P k L → rgL R k L
  | 0, _, q => q
  | k + 1, L, q => q.elim (fun ⟨a, L2, b, c⟩ => Or.inl ⟨(h k).mp a, L2, rgL_congr h b, c⟩) (fun ⟨a, b⟩ => Or.inr ⟨fun z => a ((h k).mpr z), rgL_congr h b⟩)
/-- the open works that a rule hangs on -/
def opWC (σ : am_HS) (E : Nat → Nat → Prop) (p r w : Nat) : Prop := rch E 22 r (12 + w) ∧ oeC σ p w
/-- the answer of what was found -/
def rgEC (σ : am_HS) (acc : Acc) (what z : Int) (s : am_HS) : Prop := match acc with
  | none => z = 2000000003 ∧ ∃ τ, FrR σ τ ∧ RKc τ ∧ s = uI τ 8 3 (hI τ 8 3 + 1)
  | some b => z = (if what = 0 then b.1.1 else if what = 1 then b.1.2 else if what = 2 then b.2.1 else b.2.2) ∧ FrR σ s ∧ RKc s
def moC_ (σ : am_HS) (a : Nat) : Nat := (hI σ (37 + a) 1).toNat
/-- what was found -/
def rgAC (σ : am_HS) (b n r : Nat) (ev : Nat → Den) (mk : Nat → Vl) (L : List Nat) (acc : Acc) : Prop := if hI σ (6 + b) 1 = 0 then acc = accS (accS none (rvC n ev mk r)) (rvC n ev (fun a => if a ∈ L then vN (moC_ σ a : Int) 1 else mk a) r) else AccP acc (fun v => ∃ mk', (∀ a, (a ∉ L → mk' a = mk a) ∧ (a ∈ L → ∃ k : Nat, k ≤ moC_ σ a ∧ mk' a = vN (k : Int) 1)) ∧ v = rvC n ev mk' r)
theorem cc6_range148 {d : Nat} (hd : 4 ≤ d) (σ : am_HS) {b : Nat} (hf : σ.2.2 = cH b) (g3 : ∀ k, k < 8 → 0 ≤ hI σ 8 k ∧ hI σ 8 k ≤ 100000) (x1 x2 what x4 x5 : Int) (hwh : 0 ≤ what ∧ what < 4) (acc : Acc) (s : am_HS) (fr : FrR σ s) (rk : RKc s) (ha : AcC acc s) : am_Go lc d 6 6 1 cX6_range 148 [some (vR (some 0)), some (vI x1), some (vI x2), some (vI what), some (vI x4), some (vI x5)] [] s (qI fun z s => rgEC σ acc what z s) := by
  have hfs : s.2.2 = cH b := fr.1.trans hf
  have g3s : ∀ k, k < 8 → 0 ≤ hI s 8 k ∧ hI s 8 k ≤ 100000 := fun k hk => by rw [fr.2 8 k (by omega)]; exact g3 k hk
  rcases acc with _ | bb
  · refine g_aload_n dX6_range_148 rfl ?_
    refine g_getA dX6_range_149 tf_6_35 rfl rfl (crf hfs rfl) ?_
    refine g_getL dX6_range_152 tf_6_266 rfl rfl ?_
    refine g_callsI dX6_range_155 tm_6_241 rfl ⟨Nat.le_of_ble_eq_true rfl, rfl, rfl⟩ (Nat.le_of_ble_eq_true rfl) (cc4_isNumber (by omega) s _ (by rw [ha.1]; exact ⟨by decide, by decide⟩)) (fun z155 s155 h155 => ?_)
    obtain ⟨h155, e155⟩ := h155
    obtain rfl := e155.symm
    rw [ha.1] at h155
    refine g_if_ne (tgt := 171) dX6_range_158 (by decide) (fun c158 => ?_) (fun c158 => ?_)
    · exfalso; omega
    · refine g_ldc dX6_range_161 ti_6_225 ⟨by decide, by decide⟩ ?_
      refine g_aload_n dX6_range_163 rfl ?_
      refine g_bipush dX6_range_164 (by decide) ?_
      refine g_callvI dX6_range_166 tm_6_55 rfl ⟨rfl, rfl⟩ rfl (Nat.le_of_ble_eq_true rfl) (cc6_refuse (by omega) s hfs _ ⟨by omega, by omega⟩ g3s) (fun z166 s166 h166 => ?_)
      obtain ⟨h166, e166⟩ := h166
      subst h166
      refine g_isub dX6_range_169 rfl ⟨by omega, by omega⟩ ?_
      refine g_ireturn dX6_range_170 (Or.inl rfl) ⟨_, rfl, ?_⟩
      exact ⟨by omega, s, fr, rk, e166⟩
  · obtain ⟨⟨v1, e7⟩, v2, e8⟩ := ha
    have r1 := encV_r v1
    have n1 : encV (some (some bb.1)) % 4294967296 ≠ 0 := by
      rw [(enc_lo v1).1]
      have h1 : 1 ≤ bb.1.2 := v1.2.2.1
      show bb.1.2 ≠ 0
      omega
    have hand : (Int32.ofInt what &&& Int32.ofInt 1).toInt = what % 2 := by
      have : what = 0 ∨ what = 1 ∨ what = 2 ∨ what = 3 := by omega
      rcases this with rfl | rfl | rfl | rfl <;> decide
    refine g_aload_n dX6_range_148 rfl ?_
    refine g_getA dX6_range_149 tf_6_35 rfl rfl (crf hfs rfl) ?_
    refine g_getL dX6_range_152 tf_6_266 rfl rfl ?_
    refine g_callsI dX6_range_155 tm_6_241 rfl ⟨Nat.le_of_ble_eq_true rfl, rfl, rfl⟩ (Nat.le_of_ble_eq_true rfl) (cc4_isNumber (by omega) s _ (by rw [e7]; exact r1)) (fun z155 s155 h155 => ?_)
    obtain ⟨h155, e155⟩ := h155
    obtain rfl := e155.symm
    rw [e7] at h155
    refine g_if_ne (tgt := 171) dX6_range_158 (by decide) (fun c158 => ?_) (fun c158 => ?_)
    · refine g_iload_n dX6_range_171 rfl ?_
      refine g_iconst dX6_range_172 ⟨by decide, by decide⟩ ?_
      refine g_icmp_ge (tgt := 186) dX6_range_173 (by decide) (fun c173 => ?_) (fun c173 => ?_)
      · refine g_aload_n dX6_range_186 rfl ?_
        refine g_getA dX6_range_187 tf_6_35 rfl rfl (crf hfs rfl) ?_
        refine g_getL dX6_range_190 tf_6_270 rfl rfl ?_
        refine g_iload_n dX6_range_193 rfl ?_
        refine g_iconst dX6_range_194 ⟨by decide, by decide⟩ ?_
        refine g_iand dX6_range_195 hand ?_
        refine g_callsI dX6_range_196 tm_6_213 rfl ⟨Nat.le_of_ble_eq_true rfl, rfl, rfl⟩ (Nat.le_of_ble_eq_true rfl) (cc6_part (by omega) s v2 _ (what % 2) e8 (by omega)) (fun z196 s196 h196 => ?_)
        obtain ⟨h196, e196⟩ := h196
        subst e196
        refine g_ireturn dX6_range_199 (Or.inl rfl) ⟨_, rfl, ?_⟩
        refine ⟨?_, fr, rk⟩
        rw [h196]
        have ht : tgV (some (some bb.2)) = 1 := rfl
        rw [if_pos ht]
        have hw : what = 0 ∨ what = 1 ∨ what = 2 ∨ what = 3 := by omega
        rcases hw with rfl | rfl | rfl | rfl
        · first
            | rfl
            | (exfalso; omega)
        · first
            | rfl
            | (exfalso; omega)
        · first
            | rfl
            | (exfalso; omega)
        · first
            | rfl
            | (exfalso; omega)
      · refine g_aload_n dX6_range_176 rfl ?_
        refine g_getA dX6_range_177 tf_6_35 rfl rfl (crf hfs rfl) ?_
        refine g_getL dX6_range_180 tf_6_266 rfl rfl ?_
        refine g_goto (tgt := 193) dX6_range_183 (by decide) ?_
        refine g_iload_n dX6_range_193 rfl ?_
        refine g_iconst dX6_range_194 ⟨by decide, by decide⟩ ?_
        refine g_iand dX6_range_195 hand ?_
        refine g_callsI dX6_range_196 tm_6_213 rfl ⟨Nat.le_of_ble_eq_true rfl, rfl, rfl⟩ (Nat.le_of_ble_eq_true rfl) (cc6_part (by omega) s v1 _ (what % 2) e7 (by omega)) (fun z196 s196 h196 => ?_)
        obtain ⟨h196, e196⟩ := h196
        subst e196
        refine g_ireturn dX6_range_199 (Or.inl rfl) ⟨_, rfl, ?_⟩
        refine ⟨?_, fr, rk⟩
        rw [h196]
        have ht : tgV (some (some bb.1)) = 1 := rfl
        rw [if_pos ht]
        have hw : what = 0 ∨ what = 1 ∨ what = 2 ∨ what = 3 := by omega
        rcases hw with rfl | rfl | rfl | rfl
        · first
            | rfl
            | (exfalso; omega)
        · first
            | rfl
            | (exfalso; omega)
        · first
            | rfl
            | (exfalso; omega)
        · first
            | rfl
            | (exfalso; omega)
    · exfalso; omega
theorem rgL_lt {P : Nat → Prop} : ∀ {k : Nat} {L : List Nat}, rgL P k L → ∀ {W : Nat}, k ≤ W → rgL (fun w => P w ∧ w < W) k L
  | 0, _, q, _, _ => q
  | k + 1, L, q, W, hW => q.elim (fun ⟨a, L2, b, c⟩ => Or.inl ⟨⟨a, by omega⟩, L2, rgL_lt b (by omega), c⟩) (fun ⟨a, b⟩ => Or.inr ⟨fun z => a z.1, rgL_lt b (by omega)⟩)
theorem cc6_range {D : Nat} (hD : 11 ≤ D) (σ : am_HS) {b n : Nat} {nm : Nat → Int} {ev : Nat → Den} {ed : Nat → Nat → Prop} {ls : Prop} {W P : Nat} (hG : CG σ b n nm ev ed ls W P) {mk : Nat → Nat → Vl} (hm : ∀ p, p < P → mkOK σ W p (mk p)) (p r what : Int) : am_Do lc D mX6_range σ [vR (some 0), vI p, vI r, vI what] (qI fun z s => (¬ (0 ≤ p ∧ p < hI σ 0 7 ∧ 0 ≤ r ∧ r < (n : Int)) ∧ z = 2000000000 + 1 ∧ s = uI σ 8 1 (hI σ 8 1 + 1)) ∨ ((0 ≤ p ∧ p < hI σ 0 7 ∧ 0 ≤ r ∧ r < (n : Int)) ∧ ¬ (0 ≤ what ∧ what < 5) ∧ z = 2000000000 + 2 ∧ s = uI σ 8 2 (hI σ 8 2 + 1)) ∨ ((0 ≤ p ∧ p < hI σ 0 7 ∧ 0 ≤ r ∧ r < (n : Int)) ∧ (0 ≤ what ∧ what < 5) ∧ ∃ L, rgL (opWC σ (EdW ed n W (fun w => hI σ (37 + w) 4)) p.toNat r.toNat) W L ∧ ((what = 4 ∧ z = (L.length : Int) ∧ s = σ) ∨ (what ≠ 4 ∧ hI σ (6 + b) 1 ≠ 0 ∧ 3 < L.length ∧ z = 2000000003 ∧ s = uI σ 8 3 (hI σ 8 3 + 1)) ∨ (what ≠ 4 ∧ ¬ (hI σ (6 + b) 1 ≠ 0 ∧ 3 < L.length) ∧ ∃ acc, rgAC σ b n r.toNat ev (mk p.toNat) L acc ∧ rgEC σ acc what z s)))) := by
  obtain ⟨hf, hb2, hg, hrg, hC, hS, hW, hP, hRK, hWk⟩ := id hG
  obtain ⟨g1, g2, g3⟩ := id hg
  obtain ⟨⟨X0, hX0⟩, cc, hcc, hcc2⟩ := id hRK
  have hn12 : n ≤ 12 := hC.2.1
  have hN : hI σ (6 + b) 0 = (n : Int) := hC.2.2.1
  have hb : b < 2 := hb2
  have hW10 : W ≤ 10 := by omega
  have hP6 : P ≤ 6 := by omega
  obtain ⟨d, rfl⟩ : ∃ d, D = d + 1 := ⟨D - 1, by omega⟩
  refine am_enter rfl rfl (Nat.le_of_ble_eq_true rfl) ?_
  refine g_aload_n dX6_range_0 rfl ?_
  refine g_iload_n dX6_range_1 rfl ?_
  refine g_callvI dX6_range_2 tm_6_59 rfl ⟨rfl, rfl⟩ rfl (Nat.le_of_ble_eq_true rfl) (cc6_isPupil (by omega) σ hf _ (by omega)) (fun z2 s2 h2 => ?_)
  obtain ⟨h2, e2⟩ := h2
  obtain rfl := e2.symm
  refine g_if_eq (tgt := 16) dX6_range_5 (by decide) (fun c5 => ?_) (fun c5 => ?_)
  · refine g_ldc dX6_range_16 ti_6_225 ⟨by decide, by decide⟩ ?_
    refine g_aload_n dX6_range_18 rfl ?_
    refine g_iconst dX6_range_19 ⟨by decide, by decide⟩ ?_
    refine g_callvI dX6_range_20 tm_6_55 rfl ⟨rfl, rfl⟩ rfl (Nat.le_of_ble_eq_true rfl) (cc6_refuse (by omega) σ hf _ ⟨by omega, by omega⟩ g3) (fun z20 s20 h20 => ?_)
    obtain ⟨h20, e20⟩ := h20
    obtain rfl := e20.symm
    subst h20
    refine g_isub dX6_range_23 rfl ⟨by omega, by omega⟩ ?_
    refine g_ireturn dX6_range_24 (Or.inl rfl) ⟨_, rfl, ?_⟩
    exact Or.inl ⟨by omega, by omega, rfl⟩
  · refine g_aload_n dX6_range_8 rfl ?_
    refine g_iload_n dX6_range_9 rfl ?_
    refine g_callvI dX6_range_10 tm_6_134 rfl ⟨rfl, rfl⟩ rfl (Nat.le_of_ble_eq_true rfl) (cc6_isRule (by omega) σ hf _ hb2 (by omega)) (fun z10 s10 h10 => ?_)
    obtain ⟨h10, e10⟩ := h10
    obtain rfl := e10.symm
    refine g_if_ne (tgt := 25) dX6_range_13 (by decide) (fun c13 => ?_) (fun c13 => ?_)
    · refine g_iload_n dX6_range_25 rfl ?_
      refine g_if_lt (tgt := 34) dX6_range_26 (by decide) (fun c26 => ?_) (fun c26 => ?_)
      · refine g_ldc dX6_range_34 ti_6_225 ⟨by decide, by decide⟩ ?_
        refine g_aload_n dX6_range_36 rfl ?_
        refine g_bipush dX6_range_37 (by decide) ?_
        refine g_callvI dX6_range_39 tm_6_55 rfl ⟨rfl, rfl⟩ rfl (Nat.le_of_ble_eq_true rfl) (cc6_refuse (by omega) σ hf _ ⟨by omega, by omega⟩ g3) (fun z39 s39 h39 => ?_)
        obtain ⟨h39, e39⟩ := h39
        obtain rfl := e39.symm
        subst h39
        refine g_isub dX6_range_42 rfl ⟨by omega, by omega⟩ ?_
        refine g_ireturn dX6_range_43 (Or.inl rfl) ⟨_, rfl, ?_⟩
        exact Or.inr (Or.inl ⟨by omega, by omega, by omega, rfl⟩)
      · refine g_iload_n dX6_range_29 rfl ?_
        refine g_iconst dX6_range_30 ⟨by decide, by decide⟩ ?_
        refine g_icmp_le (tgt := 44) dX6_range_31 (by decide) (fun c31 => ?_) (fun c31 => ?_)
        · obtain ⟨pn, hpn⟩ : ∃ pn : Nat, p = (pn : Int) := ⟨p.toNat, by omega⟩
          obtain ⟨rn, hrnn⟩ : ∃ rn : Nat, r = (rn : Int) := ⟨r.toNat, by omega⟩
          subst hpn
          subst hrnn
          have hrn : rn < n := by omega
          have hm := hm pn (by omega)
          refine g_aload_n dX6_range_44 rfl ?_
          refine g_iload_n dX6_range_45 rfl ?_
          refine g_callvI dX6_range_46 tm_6_249 rfl ⟨rfl, rfl⟩ rfl (Nat.le_of_ble_eq_true rfl) (cc6_openEnded (by omega) σ hf hg hrg W hW pn (by omega)) (fun z46 s46 h46 => ?_)
          obtain ⟨⟨G1, h46, hG1l, hG1⟩, e46⟩ := h46
          obtain rfl := e46.symm
          subst h46
          refine g_aload_n dX6_range_49 rfl ?_
          refine g_aload_n dX6_range_50 rfl ?_
          refine g_getA dX6_range_51 tf_6_42 rfl rfl (crf (by first | exact hf | exact hf1) rfl) ?_
          refine g_iload_n dX6_range_54 rfl ?_
          refine g_callvI dX6_range_55 tm_6_140 rfl ⟨rfl, rfl⟩ rfl (Nat.le_of_ble_eq_true rfl) (cc6_under (by omega) σ hf hb2 n hN hn12 W hW hW10 hC.2.2.2.2.2.1 hS.2.2.2.1 rn hrn) (fun z55 s55 h55 => ?_)
          obtain ⟨⟨G2, h55, hG2l, hG2⟩, e55⟩ := h55
          obtain rfl := e55.symm
          subst h55
          refine g_iand dX6_range_58 (bt_and (by omega)) ?_
          have hb1 := fun a => (hG2 a)
          have hVl : G1 &&& G2 < 1024 := Nat.lt_of_le_of_lt Nat.and_le_left hG1l
          obtain ⟨V, hVd⟩ : ∃ V, V = G1 &&& G2 := ⟨_, rfl⟩
          have hVb : ∀ a, hasB V a ↔ opWC σ (EdW ed n W (fun w => hI σ (37 + w) 4)) pn rn a ∧ a < W := fun a => by
            rw [hVd]
            unfold hasB
            rw [Nat.testBit_and, Bool.and_eq_true]
            have q1 := hG1 a
            have q2 := hG2 a
            unfold hasB at q1 q2
            rw [q1, q2]
            unfold opWC
            constructor
            · rintro ⟨⟨z1, z2⟩, z3, z4⟩
              rw [phB_w (by omega)] at z4
              exact ⟨⟨z4, z2⟩, z1⟩
            · rintro ⟨⟨z1, z2⟩, z3⟩
              exact ⟨⟨z3, z2⟩, by omega, by rw [phB_w (by omega)]; exact z1⟩
          rw [← hVd] at hVl ⊢
          obtain ⟨L, hL⟩ := rgL_ex (opWC σ (EdW ed n W (fun w => hI σ (37 + w) 4)) pn rn) W
          have hLm := rgL_mem hL
          have hLV : ∀ a, a ∈ L ↔ hasB V a := fun a => (hLm a).trans ⟨fun h => (hVb a).mpr ⟨h.2, h.1⟩, fun h => ⟨((hVb a).mp h).2, ((hVb a).mp h).1⟩⟩
          have hL10 : rgL (fun w => hasB V w) 10 L := by
            obtain ⟨L2, h2⟩ := rgL_ex (fun w => hasB V w) W
            have h3 : rgL (opWC σ (EdW ed n W (fun w => hI σ (37 + w) 4)) pn rn) W L := hL
            have h4 := rgL_up (P := fun w => opWC σ (EdW ed n W (fun w => hI σ (37 + w) 4)) pn rn w ∧ w < W) (k := W) (L := L) (rgL_lt hL (Nat.le_refl W)) (fun w h => h.2) (10 - W)
            rw [show W + (10 - W) = 10 by omega] at h4
            exact rgL_congr (fun w => (hVb w).symm) h4
          have hcnt := rgL_cnt (c := fun w => V.testBit w) (fun k => Iff.rfl) hL10
          refine g_istore dX6_range_59 (by decide) rfl ?_
          refine g_iload dX6_range_61 rfl ?_
          refine g_callsI dX6_range_63 tm_6_252 rfl ⟨Nat.le_of_ble_eq_true rfl, rfl, rfl⟩ (Nat.le_of_ble_eq_true rfl) (cj_bits (by omega) σ V hVl) (fun z63 s63 h63 => ?_)
          obtain ⟨h63, e63⟩ := h63
          obtain rfl := e63.symm
          rw [← hcnt] at h63
          subst h63
          refine g_istore dX6_range_66 (by decide) rfl ?_
          refine g_iload_n dX6_range_68 rfl ?_
          refine g_iconst dX6_range_69 ⟨by decide, by decide⟩ ?_
          refine g_icmp_ne (tgt := 76) dX6_range_70 (by decide) (fun c70 => ?_) (fun c70 => ?_)
          · refine g_aload_n dX6_range_76 rfl ?_
            refine g_getA dX6_range_77 tf_6_42 rfl rfl (crf (by first | exact hf | exact hf1) rfl) ?_
            refine g_getZ dX6_range_80 tf_6_257 (lc_b hb2) rfl ?_
            refine g_if_eq (tgt := 102) dX6_range_83 (by decide) (fun c83 => ?_) (fun c83 => ?_)
            · refine g_aload_n dX6_range_102 rfl ?_
              refine g_iload_n dX6_range_103 rfl ?_
              refine g_callvV dX6_range_104 tm_6_226 rfl ⟨rfl, rfl⟩ rfl (Nat.le_of_ble_eq_true rfl) (cc6_load (by omega) σ hf hg hrg W hW pn (by omega) hX0) (fun s104 h104 => ?_)
              obtain ⟨X1, hL1⟩ := h104
              have hf1 : s104.2.2 = cH b := hL1.1.1.trans hf
              have hC1 := hL1.1.cb hC
              have hmoW : ∀ a, a < 10 → hasB V a → hI s104 16 a = (moC_ σ a : Int) ∧ moC_ σ a ≤ 20 := fun a ha h => by
                have haW := ((hVb a).mp h).2
                have hwr := hrg.2 a ha
                rw [(hL1.2.2.2.1 a haW).2]
                unfold moC_
                omega
              have hX1m : ∀ a, a < W → X1 a = mk pn a := fun a ha => by rw [(hL1.2.2.2.1 a ha).1]; exact hm.2 a ha
              have hcc1 : ∃ c : Nat, hI s104 5 6 = (c : Int) ∧ c < 4194304 := ⟨cc, hL1.2.1.trans hcc, hcc2⟩
              have hmin : hI s104 (6 + b) 1 = hI σ (6 + b) 1 := hL1.1.2 _ _ (by omega)
              refine g_aload_n dX6_range_107 rfl ?_
              refine g_getA dX6_range_108 tf_6_42 rfl rfl (crf (by first | exact hf | exact hf1) rfl) ?_
              refine g_getZ dX6_range_111 tf_6_257 (lc_b hb2) rfl ?_
              refine g_if_eq (tgt := 134) dX6_range_114 (by decide) (fun c114 => ?_) (fun c114 => ?_)
              · refine g_aload_n dX6_range_134 rfl ?_
                refine g_getA dX6_range_135 tf_6_35 rfl rfl (crf (by first | exact hf | exact hf1) rfl) ?_
                refine g_aload_n dX6_range_138 rfl ?_
                refine g_getA dX6_range_139 tf_6_42 rfl rfl (crf (by first | exact hf | exact hf1) rfl) ?_
                refine g_iload_n dX6_range_142 rfl ?_
                refine g_iload dX6_range_143 rfl ?_
                refine g_callvV dX6_range_145 tm_6_263 rfl ⟨rfl, rfl⟩ rfl (Nat.le_of_ble_eq_true rfl) (cc2_tryEnds (by omega) hf1 hC1 hS hWk hm.1 hL1.2.2.1 hX1m hcc1 rn hrn V (moC_ σ) hVl hmoW) (fun s145 h145 => ?_)
                obtain ⟨tf, tr, ta⟩ := h145
                refine (cc6_range148 (by omega) σ hf g3 _ _ _ _ _ ⟨by omega, by omega⟩ (accS (accS none (rvC n ev (mk pn) rn)) (rvC n ev (fun a => if V.testBit a = true then vN (moC_ σ a : Int) 1 else mk pn a) rn)) s145 (hL1.1.tr tf) tr ta).mono ?_
                rintro res u ⟨z, rfl, hz⟩
                refine ⟨z, rfl, Or.inr (Or.inr ⟨⟨by omega, by omega, by omega, by omega⟩, ⟨by omega, by omega⟩, L, hL, Or.inr (Or.inr ⟨by omega, ?_, (accS (accS none (rvC n ev (mk pn) rn)) (rvC n ev (fun a => if V.testBit a = true then vN (moC_ σ a : Int) 1 else mk pn a) rn)), ?_, hz⟩)⟩)⟩
                · exact fun w => by omega
                · unfold rgAC
                  rw [if_pos (show hI σ (6 + b) 1 = 0 by omega)]
                  have e : (fun a => if V.testBit a = true then vN (moC_ σ a : Int) 1 else mk pn a) = (fun a => if a ∈ L then vN (moC_ σ a : Int) 1 else mk pn a) := funext fun a => by
                    by_cases h : V.testBit a = true
                    · rw [if_pos h, if_pos ((hLV a).mpr h)]
                    · rw [if_neg h, if_neg (fun z => h ((hLV a).mp z))]
                  show _ = accS (accS none (rvC n ev (mk pn) rn)) (rvC n ev (fun a => if a ∈ L then vN (moC_ σ a : Int) 1 else mk pn a) rn)
                  rw [← e]
              · refine g_aload_n dX6_range_117 rfl ?_
                refine g_getA dX6_range_118 tf_6_35 rfl rfl (crf (by first | exact hf | exact hf1) rfl) ?_
                refine g_aload_n dX6_range_121 rfl ?_
                refine g_getA dX6_range_122 tf_6_42 rfl rfl (crf (by first | exact hf | exact hf1) rfl) ?_
                refine g_iload_n dX6_range_125 rfl ?_
                refine g_iload dX6_range_126 rfl ?_
                refine g_callvV dX6_range_128 tm_6_260 rfl ⟨rfl, rfl⟩ rfl (Nat.le_of_ble_eq_true rfl) (cc2_tryAll (by omega) hf1 hC1 hS hWk hm.1 hL1.2.2.1 hX1m hcc1 rn hrn hW10 V (moC_ σ) hVl (by omega) hmoW) (fun s128 h128 => ?_)
                obtain ⟨tf, tr, acc, ta, tp⟩ := h128
                refine g_goto (tgt := 148) dX6_range_131 (by decide) ?_
                refine (cc6_range148 (by omega) σ hf g3 _ _ _ _ _ ⟨by omega, by omega⟩ acc s128 (hL1.1.tr tf) tr ta).mono ?_
                rintro res u ⟨z, rfl, hz⟩
                refine ⟨z, rfl, Or.inr (Or.inr ⟨⟨by omega, by omega, by omega, by omega⟩, ⟨by omega, by omega⟩, L, hL, Or.inr (Or.inr ⟨by omega, ?_, acc, ?_, hz⟩)⟩)⟩
                · exact fun w => by omega
                · unfold rgAC
                  rw [if_neg (show ¬ hI σ (6 + b) 1 = 0 by omega)]
                  refine AccP_congr tp (fun v => ?_)
                  constructor
                  · rintro ⟨mk', h1, h2⟩
                    exact ⟨mk', fun a => ⟨fun h => (h1 a).1 (fun z => h ((hLV a).mpr z)), fun h => (h1 a).2 ((hLV a).mp h)⟩, h2⟩
                  · rintro ⟨mk', h1, h2⟩
                    exact ⟨mk', fun a => ⟨fun h => (h1 a).1 (fun z => h ((hLV a).mp z)), fun h => (h1 a).2 ((hLV a).mpr h)⟩, h2⟩
            · refine g_iload dX6_range_86 rfl ?_
              refine g_iconst dX6_range_88 ⟨by decide, by decide⟩ ?_
              refine g_icmp_le (tgt := 102) dX6_range_89 (by decide) (fun c89 => ?_) (fun c89 => ?_)
              · refine g_aload_n dX6_range_102 rfl ?_
                refine g_iload_n dX6_range_103 rfl ?_
                refine g_callvV dX6_range_104 tm_6_226 rfl ⟨rfl, rfl⟩ rfl (Nat.le_of_ble_eq_true rfl) (cc6_load (by omega) σ hf hg hrg W hW pn (by omega) hX0) (fun s104 h104 => ?_)
                obtain ⟨X1, hL1⟩ := h104
                have hf1 : s104.2.2 = cH b := hL1.1.1.trans hf
                have hC1 := hL1.1.cb hC
                have hmoW : ∀ a, a < 10 → hasB V a → hI s104 16 a = (moC_ σ a : Int) ∧ moC_ σ a ≤ 20 := fun a ha h => by
                  have haW := ((hVb a).mp h).2
                  have hwr := hrg.2 a ha
                  rw [(hL1.2.2.2.1 a haW).2]
                  unfold moC_
                  omega
                have hX1m : ∀ a, a < W → X1 a = mk pn a := fun a ha => by rw [(hL1.2.2.2.1 a ha).1]; exact hm.2 a ha
                have hcc1 : ∃ c : Nat, hI s104 5 6 = (c : Int) ∧ c < 4194304 := ⟨cc, hL1.2.1.trans hcc, hcc2⟩
                have hmin : hI s104 (6 + b) 1 = hI σ (6 + b) 1 := hL1.1.2 _ _ (by omega)
                refine g_aload_n dX6_range_107 rfl ?_
                refine g_getA dX6_range_108 tf_6_42 rfl rfl (crf (by first | exact hf | exact hf1) rfl) ?_
                refine g_getZ dX6_range_111 tf_6_257 (lc_b hb2) rfl ?_
                refine g_if_eq (tgt := 134) dX6_range_114 (by decide) (fun c114 => ?_) (fun c114 => ?_)
                · refine g_aload_n dX6_range_134 rfl ?_
                  refine g_getA dX6_range_135 tf_6_35 rfl rfl (crf (by first | exact hf | exact hf1) rfl) ?_
                  refine g_aload_n dX6_range_138 rfl ?_
                  refine g_getA dX6_range_139 tf_6_42 rfl rfl (crf (by first | exact hf | exact hf1) rfl) ?_
                  refine g_iload_n dX6_range_142 rfl ?_
                  refine g_iload dX6_range_143 rfl ?_
                  refine g_callvV dX6_range_145 tm_6_263 rfl ⟨rfl, rfl⟩ rfl (Nat.le_of_ble_eq_true rfl) (cc2_tryEnds (by omega) hf1 hC1 hS hWk hm.1 hL1.2.2.1 hX1m hcc1 rn hrn V (moC_ σ) hVl hmoW) (fun s145 h145 => ?_)
                  obtain ⟨tf, tr, ta⟩ := h145
                  refine (cc6_range148 (by omega) σ hf g3 _ _ _ _ _ ⟨by omega, by omega⟩ (accS (accS none (rvC n ev (mk pn) rn)) (rvC n ev (fun a => if V.testBit a = true then vN (moC_ σ a : Int) 1 else mk pn a) rn)) s145 (hL1.1.tr tf) tr ta).mono ?_
                  rintro res u ⟨z, rfl, hz⟩
                  refine ⟨z, rfl, Or.inr (Or.inr ⟨⟨by omega, by omega, by omega, by omega⟩, ⟨by omega, by omega⟩, L, hL, Or.inr (Or.inr ⟨by omega, ?_, (accS (accS none (rvC n ev (mk pn) rn)) (rvC n ev (fun a => if V.testBit a = true then vN (moC_ σ a : Int) 1 else mk pn a) rn)), ?_, hz⟩)⟩)⟩
                  · exact fun w => by omega
                  · unfold rgAC
                    rw [if_pos (show hI σ (6 + b) 1 = 0 by omega)]
                    have e : (fun a => if V.testBit a = true then vN (moC_ σ a : Int) 1 else mk pn a) = (fun a => if a ∈ L then vN (moC_ σ a : Int) 1 else mk pn a) := funext fun a => by
                      by_cases h : V.testBit a = true
                      · rw [if_pos h, if_pos ((hLV a).mpr h)]
                      · rw [if_neg h, if_neg (fun z => h ((hLV a).mp z))]
                    show _ = accS (accS none (rvC n ev (mk pn) rn)) (rvC n ev (fun a => if a ∈ L then vN (moC_ σ a : Int) 1 else mk pn a) rn)
                    rw [← e]
                · refine g_aload_n dX6_range_117 rfl ?_
                  refine g_getA dX6_range_118 tf_6_35 rfl rfl (crf (by first | exact hf | exact hf1) rfl) ?_
                  refine g_aload_n dX6_range_121 rfl ?_
                  refine g_getA dX6_range_122 tf_6_42 rfl rfl (crf (by first | exact hf | exact hf1) rfl) ?_
                  refine g_iload_n dX6_range_125 rfl ?_
                  refine g_iload dX6_range_126 rfl ?_
                  refine g_callvV dX6_range_128 tm_6_260 rfl ⟨rfl, rfl⟩ rfl (Nat.le_of_ble_eq_true rfl) (cc2_tryAll (by omega) hf1 hC1 hS hWk hm.1 hL1.2.2.1 hX1m hcc1 rn hrn hW10 V (moC_ σ) hVl (by omega) hmoW) (fun s128 h128 => ?_)
                  obtain ⟨tf, tr, acc, ta, tp⟩ := h128
                  refine g_goto (tgt := 148) dX6_range_131 (by decide) ?_
                  refine (cc6_range148 (by omega) σ hf g3 _ _ _ _ _ ⟨by omega, by omega⟩ acc s128 (hL1.1.tr tf) tr ta).mono ?_
                  rintro res u ⟨z, rfl, hz⟩
                  refine ⟨z, rfl, Or.inr (Or.inr ⟨⟨by omega, by omega, by omega, by omega⟩, ⟨by omega, by omega⟩, L, hL, Or.inr (Or.inr ⟨by omega, ?_, acc, ?_, hz⟩)⟩)⟩
                  · exact fun w => by omega
                  · unfold rgAC
                    rw [if_neg (show ¬ hI σ (6 + b) 1 = 0 by omega)]
                    refine AccP_congr tp (fun v => ?_)
                    constructor
                    · rintro ⟨mk', h1, h2⟩
                      exact ⟨mk', fun a => ⟨fun h => (h1 a).1 (fun z => h ((hLV a).mpr z)), fun h => (h1 a).2 ((hLV a).mp h)⟩, h2⟩
                    · rintro ⟨mk', h1, h2⟩
                      exact ⟨mk', fun a => ⟨fun h => (h1 a).1 (fun z => h ((hLV a).mp z)), fun h => (h1 a).2 ((hLV a).mpr h)⟩, h2⟩
              · refine g_ldc dX6_range_92 ti_6_225 ⟨by decide, by decide⟩ ?_
                refine g_aload_n dX6_range_94 rfl ?_
                refine g_bipush dX6_range_95 (by decide) ?_
                refine g_callvI dX6_range_97 tm_6_55 rfl ⟨rfl, rfl⟩ rfl (Nat.le_of_ble_eq_true rfl) (cc6_refuse (by omega) σ hf _ ⟨by omega, by omega⟩ g3) (fun z97 s97 h97 => ?_)
                obtain ⟨h97, e97⟩ := h97
                obtain rfl := e97.symm
                subst h97
                refine g_isub dX6_range_100 rfl ⟨by omega, by omega⟩ ?_
                refine g_ireturn dX6_range_101 (Or.inl rfl) ⟨_, rfl, ?_⟩
                exact Or.inr (Or.inr ⟨⟨by omega, by omega, by omega, by omega⟩, ⟨by omega, by omega⟩, L, hL, Or.inr (Or.inl ⟨by omega, by omega, by omega, by omega, rfl⟩)⟩)
          · refine g_iload dX6_range_73 rfl ?_
            refine g_ireturn dX6_range_75 (Or.inl rfl) ⟨_, rfl, ?_⟩
            exact Or.inr (Or.inr ⟨⟨by omega, by omega, by omega, by omega⟩, ⟨by omega, by omega⟩, L, hL, Or.inl ⟨by omega, rfl, rfl⟩⟩)
        · refine g_ldc dX6_range_34 ti_6_225 ⟨by decide, by decide⟩ ?_
          refine g_aload_n dX6_range_36 rfl ?_
          refine g_bipush dX6_range_37 (by decide) ?_
          refine g_callvI dX6_range_39 tm_6_55 rfl ⟨rfl, rfl⟩ rfl (Nat.le_of_ble_eq_true rfl) (cc6_refuse (by omega) σ hf _ ⟨by omega, by omega⟩ g3) (fun z39 s39 h39 => ?_)
          obtain ⟨h39, e39⟩ := h39
          obtain rfl := e39.symm
          subst h39
          refine g_isub dX6_range_42 rfl ⟨by omega, by omega⟩ ?_
          refine g_ireturn dX6_range_43 (Or.inl rfl) ⟨_, rfl, ?_⟩
          exact Or.inr (Or.inl ⟨by omega, by omega, by omega, rfl⟩)
    · refine g_ldc dX6_range_16 ti_6_225 ⟨by decide, by decide⟩ ?_
      refine g_aload_n dX6_range_18 rfl ?_
      refine g_iconst dX6_range_19 ⟨by decide, by decide⟩ ?_
      refine g_callvI dX6_range_20 tm_6_55 rfl ⟨rfl, rfl⟩ rfl (Nat.le_of_ble_eq_true rfl) (cc6_refuse (by omega) σ hf _ ⟨by omega, by omega⟩ g3) (fun z20 s20 h20 => ?_)
      obtain ⟨h20, e20⟩ := h20
      obtain rfl := e20.symm
      subst h20
      refine g_isub dX6_range_23 rfl ⟨by omega, by omega⟩ ?_
      refine g_ireturn dX6_range_24 (Or.inl rfl) ⟨_, rfl, ?_⟩
      exact Or.inl ⟨by omega, by omega, rfl⟩

