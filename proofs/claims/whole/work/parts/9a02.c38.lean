/-! THE CLASS: a place of a row -/
theorem cc2_at {D : Nat} (hD : 1 ≤ D) (σ : am_HS) (o n : Nat) (ho : lc o = .inr (3, n)) (hn : n < 2147483648) (p : Int) : am_Do lc D mX2_at σ [vR (some 5), vR (some o), vI p] (qL fun z s => (((0 ≤ p ∧ p < (n : Int)) ∧ z = hL σ o p.toNat) ∨ (¬ (0 ≤ p ∧ p < (n : Int)) ∧ z = 4294967296)) ∧ s = σ) := by
  obtain ⟨d, rfl⟩ : ∃ d, D = d + 1 := ⟨D - 1, by omega⟩
  refine am_enter rfl rfl (Nat.le_of_ble_eq_true rfl) ?_
  refine g_iload_n dX2_at_0 rfl ?_
  refine g_if_lt (tgt := 16) dX2_at_1 (by decide) (fun c1 => ?_) (fun c1 => ?_)
  · refine g_ldc2 dX2_at_16 tj_2_33 ⟨by decide, by decide⟩ ?_
    refine g_lreturn dX2_at_19 rfl ⟨_, rfl, ?_⟩
    first
      | exact ⟨Or.inl ⟨⟨by omega, by omega⟩, rfl⟩, rfl⟩
      | exact ⟨Or.inr ⟨by omega, rfl⟩, rfl⟩
  · refine g_iload_n dX2_at_4 rfl ?_
    refine g_aload_n dX2_at_5 rfl ?_
    refine g_alen dX2_at_6 ho ⟨by decide, hn⟩ ?_
    refine g_icmp_ge (tgt := 16) dX2_at_7 (by decide) (fun c7 => ?_) (fun c7 => ?_)
    · refine g_ldc2 dX2_at_16 tj_2_33 ⟨by decide, by decide⟩ ?_
      refine g_lreturn dX2_at_19 rfl ⟨_, rfl, ?_⟩
      first
        | exact ⟨Or.inl ⟨⟨by omega, by omega⟩, rfl⟩, rfl⟩
        | exact ⟨Or.inr ⟨by omega, rfl⟩, rfl⟩
    · refine g_aload_n dX2_at_10 rfl ?_
      refine g_iload_n dX2_at_11 rfl ?_
      refine g_lald dX2_at_12 ho ⟨by omega, by omega⟩ ?_
      refine g_goto (tgt := 19) dX2_at_13 (by decide) ?_
      refine g_lreturn dX2_at_19 rfl ⟨_, rfl, ?_⟩
      first
        | exact ⟨Or.inl ⟨⟨by omega, by omega⟩, rfl⟩, rfl⟩
        | exact ⟨Or.inr ⟨by omega, rfl⟩, rfl⟩

/-! THE CLASS: the steps of 'run' -/
theorem cc2_st_put {d : Nat} (hd : 6 ≤ d) {σ : am_HS} {b : Nat} (hf : σ.2.2 = cH b) {B : Nat} (hB : B < 2) {r : Nat} (hr : r < 12) {Q : Option am_V → am_HS → Prop} (s0 : am_HS) (hst : StF 0 602 σ s0) (i H base : Nat) (arg : Int) (hi : i < 1200) (he : (i : Int) < hI σ (21 + 9 * B) r) (hH : base ≤ H ∧ H ≤ 601) (hbs : base ≤ 600) (hop : hI σ (25 + 9 * B) i = 0) (har : hI σ (26 + 9 * B) i = arg) (htk : hI σ (27 + 9 * B) i = (H : Int) - (base : Int)) (hv : 0 ≤ arg ∧ arg ≤ 9999) (hq : ∀ (o5 o6 o7 o8 : Option am_V), am_Go lc d 2 9 3 cX2_run 22 [some (vR (some 5)), some (vR (some (6 + B))), some (vI (r : Int)), some (vI ((base + 1 : Nat) : Int)), some (vI ((i + 1 : Nat) : Int)), o5, o6, o7, o8] [] (uL s0 15 base (arg * 4294967296 + 1)) Q) (o5 o6 o7 o8 : Option am_V) : am_Go lc d 2 9 3 cX2_run 22 [some (vR (some 5)), some (vR (some (6 + B))), some (vI (r : Int)), some (vI (H : Int)), some (vI (i : Int)), o5, o6, o7, o8] [] s0 Q := by
  have hf0 : s0.2.2 = cH b := hst.2.1.trans hf
  have e25 := (hst.hI (25 + 9 * B) i).trans hop
  have e26 := (hst.hI (26 + 9 * B) i).trans har
  have e27 := (hst.hI (27 + 9 * B) i).trans htk
  have e21 := hst.hI (21 + 9 * B) r

  refine g_iload dX2_run_22 rfl ?_
  refine g_if_lt (tgt := 353) dX2_run_24 (by decide) (fun c24 => ?_) (fun c24 => ?_)
  · exfalso; omega
  · refine g_iload dX2_run_27 rfl ?_
    refine g_aload_n dX2_run_29 rfl ?_
    refine g_getA dX2_run_30 tf_2_68 (lc_b hB) rfl (crb5 hf0 hB) ?_
    refine g_iload_n dX2_run_33 rfl ?_
    refine g_ialdN (r) dX2_run_34 (lcb5 hB) (by omega) (by omega) ?_
    refine g_icmp_ge (tgt := 353) dX2_run_35 (by decide) (fun c35 => ?_) (fun c35 => ?_)
    · exfalso; omega
    · refine g_iload dX2_run_38 rfl ?_
      refine g_sipush dX2_run_40 (by decide) ?_
      refine g_icmp_ge (tgt := 353) dX2_run_43 (by decide) (fun c43 => ?_) (fun c43 => ?_)
      · exfalso; omega
      · refine g_aload_n dX2_run_46 rfl ?_
        refine g_getA dX2_run_47 tf_2_71 (lc_b hB) rfl (crb10 hf0 hB) ?_
        refine g_iload dX2_run_50 rfl ?_
        refine g_ialdN (i) dX2_run_52 (lcb10 hB) (by omega) (by omega) ?_
        rw [e26]
        refine g_istore dX2_run_53 (by decide) rfl ?_
        refine g_iload_n dX2_run_55 rfl ?_
        refine g_aload_n dX2_run_56 rfl ?_
        refine g_getA dX2_run_57 tf_2_74 (lc_b hB) rfl (crb11 hf0 hB) ?_
        refine g_iload dX2_run_60 rfl ?_
        refine g_ialdN (i) dX2_run_62 (lcb11 hB) (by omega) (by omega) ?_
        rw [e27]
        refine g_isub dX2_run_63 rfl ⟨by omega, by omega⟩ ?_
        rw [show (H : Int) - ((H : Int) - (base : Int)) = (base : Int) from by omega]
        refine g_istore dX2_run_64 (by decide) rfl ?_
        refine g_iload dX2_run_66 rfl ?_
        refine g_if_lt (tgt := 92) dX2_run_68 (by decide) (fun c68 => ?_) (fun c68 => ?_)
        · exfalso; omega
        · refine g_iload dX2_run_71 rfl ?_
          refine g_iconst dX2_run_73 ⟨by decide, by decide⟩ ?_
          refine g_iadd dX2_run_74 rfl ⟨by omega, by omega⟩ ?_
          refine g_aload_n dX2_run_75 rfl ?_
          refine g_getA dX2_run_76 tf_2_18 rfl rfl (crf hf0 rfl) ?_
          refine g_alen dX2_run_79 rfl (by decide) ?_
          refine g_icmp_ge (tgt := 92) dX2_run_80 (by decide) (fun c80 => ?_) (fun c80 => ?_)
          · exfalso; omega
          · refine g_iload_n dX2_run_83 rfl ?_
            refine g_aload_n dX2_run_84 rfl ?_
            refine g_getA dX2_run_85 tf_2_18 rfl rfl (crf hf0 rfl) ?_
            refine g_alen dX2_run_88 rfl (by decide) ?_
            refine g_icmp_le (tgt := 96) dX2_run_89 (by decide) (fun c89 => ?_) (fun c89 => ?_)
            · refine g_aload_n dX2_run_96 rfl ?_
              refine g_getA dX2_run_97 tf_2_18 rfl rfl (crf hf0 rfl) ?_
              refine g_iload dX2_run_100 rfl ?_
              refine g_laldN (base) dX2_run_102 rfl (by omega) (by omega) ?_
              refine g_lstore dX2_run_103 (by decide) rfl ?_
              refine g_aload_n dX2_run_105 rfl ?_
              refine g_getA dX2_run_106 tf_2_77 (lc_b hB) rfl (crb9 hf0 hB) ?_
              refine g_iload dX2_run_109 rfl ?_
              refine g_ialdN (i) dX2_run_111 (lcb9 hB) (by omega) (by omega) ?_
              rw [e25]
              refine g_tsw_in (tgt := 184) dX2_run_112 ⟨by decide, by decide⟩ rfl (by decide) ?_
              refine g_iload dX2_run_184 rfl ?_
              refine g_callsL dX2_run_186 tm_2_80 rfl ⟨Nat.le_of_ble_eq_true rfl, rfl, rfl⟩ (Nat.le_of_ble_eq_true rfl) (cc4_whole (by omega) s0 arg ⟨by omega, by omega⟩) (fun z186 s186 h186 => ?_)
              obtain ⟨h186, e186⟩ := h186
              obtain rfl := e186.symm
              subst h186
              refine g_lstore dX2_run_189 (by decide) rfl ?_
              refine g_goto (tgt := 333) dX2_run_191 (by decide) ?_
              have hf1 := hf0
              refine g_aload_n dX2_run_333 rfl ?_
              refine g_getA dX2_run_334 tf_2_18 rfl rfl (crf hf1 rfl) ?_
              refine g_iload dX2_run_337 rfl ?_
              refine g_lload dX2_run_339 rfl ?_
              refine g_lastN (base) dX2_run_341 rfl (by omega) (by omega) ?_
              refine g_iload dX2_run_342 rfl ?_
              refine g_iconst dX2_run_344 ⟨by decide, by decide⟩ ?_
              refine g_iadd dX2_run_345 rfl ⟨by omega, by omega⟩ ?_
              rw [show (base : Int) + 1 = ((base + 1 : Nat) : Int) from by omega]
              refine g_istore_n dX2_run_346 (by decide) rfl ?_
              refine g_iinc dX2_run_347 (by decide) rfl ⟨by omega, by omega⟩ (show (i : Int) + 1 = ((i + 1 : Nat) : Int) from by omega) rfl ?_
              refine g_goto (tgt := 22) dX2_run_350 (by decide) ?_
              exact hq _ _ _ _
            · exfalso; omega
theorem cc2_st_nam {d : Nat} (hd : 6 ≤ d) {σ : am_HS} {b : Nat} (hf : σ.2.2 = cH b) {B : Nat} (hB : B < 2) {r : Nat} (hr : r < 12) {Q : Option am_V → am_HS → Prop} (s0 : am_HS) (hst : StF 0 602 σ s0) (i H base : Nat) (arg : Int) (hi : i < 1200) (he : (i : Int) < hI σ (21 + 9 * B) r) (hH : base ≤ H ∧ H ≤ 601) (hbs : base ≤ 600) (hop : hI σ (25 + 9 * B) i = 1) (har : hI σ (26 + 9 * B) i = arg) (htk : hI σ (27 + 9 * B) i = (H : Int) - (base : Int)) {x : Int} (hx : ((0 ≤ arg ∧ arg < 22) ∧ x = hL σ 13 arg.toNat) ∨ (¬ (0 ≤ arg ∧ arg < 22) ∧ x = 4294967296)) (hq : ∀ (o5 o6 o7 o8 : Option am_V), am_Go lc d 2 9 3 cX2_run 22 [some (vR (some 5)), some (vR (some (6 + B))), some (vI (r : Int)), some (vI ((base + 1 : Nat) : Int)), some (vI ((i + 1 : Nat) : Int)), o5, o6, o7, o8] [] (uL s0 15 base x) Q) (o5 o6 o7 o8 : Option am_V) : am_Go lc d 2 9 3 cX2_run 22 [some (vR (some 5)), some (vR (some (6 + B))), some (vI (r : Int)), some (vI (H : Int)), some (vI (i : Int)), o5, o6, o7, o8] [] s0 Q := by
  have hf0 : s0.2.2 = cH b := hst.2.1.trans hf
  have e25 := (hst.hI (25 + 9 * B) i).trans hop
  have e26 := (hst.hI (26 + 9 * B) i).trans har
  have e27 := (hst.hI (27 + 9 * B) i).trans htk
  have e21 := hst.hI (21 + 9 * B) r

  refine g_iload dX2_run_22 rfl ?_
  refine g_if_lt (tgt := 353) dX2_run_24 (by decide) (fun c24 => ?_) (fun c24 => ?_)
  · exfalso; omega
  · refine g_iload dX2_run_27 rfl ?_
    refine g_aload_n dX2_run_29 rfl ?_
    refine g_getA dX2_run_30 tf_2_68 (lc_b hB) rfl (crb5 hf0 hB) ?_
    refine g_iload_n dX2_run_33 rfl ?_
    refine g_ialdN (r) dX2_run_34 (lcb5 hB) (by omega) (by omega) ?_
    refine g_icmp_ge (tgt := 353) dX2_run_35 (by decide) (fun c35 => ?_) (fun c35 => ?_)
    · exfalso; omega
    · refine g_iload dX2_run_38 rfl ?_
      refine g_sipush dX2_run_40 (by decide) ?_
      refine g_icmp_ge (tgt := 353) dX2_run_43 (by decide) (fun c43 => ?_) (fun c43 => ?_)
      · exfalso; omega
      · refine g_aload_n dX2_run_46 rfl ?_
        refine g_getA dX2_run_47 tf_2_71 (lc_b hB) rfl (crb10 hf0 hB) ?_
        refine g_iload dX2_run_50 rfl ?_
        refine g_ialdN (i) dX2_run_52 (lcb10 hB) (by omega) (by omega) ?_
        rw [e26]
        refine g_istore dX2_run_53 (by decide) rfl ?_
        refine g_iload_n dX2_run_55 rfl ?_
        refine g_aload_n dX2_run_56 rfl ?_
        refine g_getA dX2_run_57 tf_2_74 (lc_b hB) rfl (crb11 hf0 hB) ?_
        refine g_iload dX2_run_60 rfl ?_
        refine g_ialdN (i) dX2_run_62 (lcb11 hB) (by omega) (by omega) ?_
        rw [e27]
        refine g_isub dX2_run_63 rfl ⟨by omega, by omega⟩ ?_
        rw [show (H : Int) - ((H : Int) - (base : Int)) = (base : Int) from by omega]
        refine g_istore dX2_run_64 (by decide) rfl ?_
        refine g_iload dX2_run_66 rfl ?_
        refine g_if_lt (tgt := 92) dX2_run_68 (by decide) (fun c68 => ?_) (fun c68 => ?_)
        · exfalso; omega
        · refine g_iload dX2_run_71 rfl ?_
          refine g_iconst dX2_run_73 ⟨by decide, by decide⟩ ?_
          refine g_iadd dX2_run_74 rfl ⟨by omega, by omega⟩ ?_
          refine g_aload_n dX2_run_75 rfl ?_
          refine g_getA dX2_run_76 tf_2_18 rfl rfl (crf hf0 rfl) ?_
          refine g_alen dX2_run_79 rfl (by decide) ?_
          refine g_icmp_ge (tgt := 92) dX2_run_80 (by decide) (fun c80 => ?_) (fun c80 => ?_)
          · exfalso; omega
          · refine g_iload_n dX2_run_83 rfl ?_
            refine g_aload_n dX2_run_84 rfl ?_
            refine g_getA dX2_run_85 tf_2_18 rfl rfl (crf hf0 rfl) ?_
            refine g_alen dX2_run_88 rfl (by decide) ?_
            refine g_icmp_le (tgt := 96) dX2_run_89 (by decide) (fun c89 => ?_) (fun c89 => ?_)
            · refine g_aload_n dX2_run_96 rfl ?_
              refine g_getA dX2_run_97 tf_2_18 rfl rfl (crf hf0 rfl) ?_
              refine g_iload dX2_run_100 rfl ?_
              refine g_laldN (base) dX2_run_102 rfl (by omega) (by omega) ?_
              refine g_lstore dX2_run_103 (by decide) rfl ?_
              refine g_aload_n dX2_run_105 rfl ?_
              refine g_getA dX2_run_106 tf_2_77 (lc_b hB) rfl (crb9 hf0 hB) ?_
              refine g_iload dX2_run_109 rfl ?_
              refine g_ialdN (i) dX2_run_111 (lcb9 hB) (by omega) (by omega) ?_
              rw [e25]
              refine g_tsw_in (tgt := 194) dX2_run_112 ⟨by decide, by decide⟩ rfl (by decide) ?_
              refine g_aload_n dX2_run_194 rfl ?_
              refine g_aload_n dX2_run_195 rfl ?_
              refine g_getA dX2_run_196 tf_2_9 rfl rfl (crf hf0 rfl) ?_
              refine g_iload dX2_run_199 rfl ?_
              refine g_callvL dX2_run_201 tm_2_35 rfl ⟨rfl, rfl⟩ rfl (Nat.le_of_ble_eq_true rfl) (cc2_at (by omega) s0 13 22 rfl (by decide) arg) (fun z201 s201 h201 => ?_)
              obtain ⟨h201, e201⟩ := h201
              obtain rfl := e201.symm
              have hz201 : z201 = x := by
                have h13 := hst.2.2 13 arg.toNat (by omega)
                rcases h201 with ⟨z1, z2⟩ | ⟨z1, z2⟩
                · rcases hx with ⟨y1, y2⟩ | ⟨y1, y2⟩
                  · rw [z2, h13, y2]
                  · exact absurd z1 y1
                · rcases hx with ⟨y1, y2⟩ | ⟨y1, y2⟩
                  · exact absurd y1 z1
                  · rw [z2, y2]
              subst hz201
              refine g_lstore dX2_run_204 (by decide) rfl ?_
              refine g_goto (tgt := 333) dX2_run_206 (by decide) ?_
              have hf1 := hf0
              refine g_aload_n dX2_run_333 rfl ?_
              refine g_getA dX2_run_334 tf_2_18 rfl rfl (crf hf1 rfl) ?_
              refine g_iload dX2_run_337 rfl ?_
              refine g_lload dX2_run_339 rfl ?_
              refine g_lastN (base) dX2_run_341 rfl (by omega) (by omega) ?_
              refine g_iload dX2_run_342 rfl ?_
              refine g_iconst dX2_run_344 ⟨by decide, by decide⟩ ?_
              refine g_iadd dX2_run_345 rfl ⟨by omega, by omega⟩ ?_
              rw [show (base : Int) + 1 = ((base + 1 : Nat) : Int) from by omega]
              refine g_istore_n dX2_run_346 (by decide) rfl ?_
              refine g_iinc dX2_run_347 (by decide) rfl ⟨by omega, by omega⟩ (show (i : Int) + 1 = ((i + 1 : Nat) : Int) from by omega) rfl ?_
              refine g_goto (tgt := 22) dX2_run_350 (by decide) ?_
              exact hq _ _ _ _
            · exfalso; omega
theorem cc2_st_plus {d : Nat} (hd : 6 ≤ d) {σ : am_HS} {b : Nat} (hf : σ.2.2 = cH b) {B : Nat} (hB : B < 2) {r : Nat} (hr : r < 12) {Q : Option am_V → am_HS → Prop} (s0 : am_HS) (hst : StF 0 602 σ s0) (i H base : Nat) (arg : Int) (hi : i < 1200) (he : (i : Int) < hI σ (21 + 9 * B) r) (hH : base ≤ H ∧ H ≤ 601) (hbs : base ≤ 600) (hop : hI σ (25 + 9 * B) i = 2) (har : hI σ (26 + 9 * B) i = arg) (htk : hI σ (27 + 9 * B) i = (H : Int) - (base : Int)) {v w : Vl} (ha : vok v) (hb : vok w) (hx : hL s0 15 base = encV v) (hy : hL s0 15 (base + 1) = encV w) (hq : ∀ (o5 o6 o7 o8 : Option am_V), am_Go lc d 2 9 3 cX2_run 22 [some (vR (some 5)), some (vR (some (6 + B))), some (vI (r : Int)), some (vI ((base + 1 : Nat) : Int)), some (vI ((i + 1 : Nat) : Int)), o5, o6, o7, o8] [] (uL s0 15 base (encV (plV v w))) Q) (o5 o6 o7 o8 : Option am_V) : am_Go lc d 2 9 3 cX2_run 22 [some (vR (some 5)), some (vR (some (6 + B))), some (vI (r : Int)), some (vI (H : Int)), some (vI (i : Int)), o5, o6, o7, o8] [] s0 Q := by
  have hf0 : s0.2.2 = cH b := hst.2.1.trans hf
  have e25 := (hst.hI (25 + 9 * B) i).trans hop
  have e26 := (hst.hI (26 + 9 * B) i).trans har
  have e27 := (hst.hI (27 + 9 * B) i).trans htk
  have e21 := hst.hI (21 + 9 * B) r

  refine g_iload dX2_run_22 rfl ?_
  refine g_if_lt (tgt := 353) dX2_run_24 (by decide) (fun c24 => ?_) (fun c24 => ?_)
  · exfalso; omega
  · refine g_iload dX2_run_27 rfl ?_
    refine g_aload_n dX2_run_29 rfl ?_
    refine g_getA dX2_run_30 tf_2_68 (lc_b hB) rfl (crb5 hf0 hB) ?_
    refine g_iload_n dX2_run_33 rfl ?_
    refine g_ialdN (r) dX2_run_34 (lcb5 hB) (by omega) (by omega) ?_
    refine g_icmp_ge (tgt := 353) dX2_run_35 (by decide) (fun c35 => ?_) (fun c35 => ?_)
    · exfalso; omega
    · refine g_iload dX2_run_38 rfl ?_
      refine g_sipush dX2_run_40 (by decide) ?_
      refine g_icmp_ge (tgt := 353) dX2_run_43 (by decide) (fun c43 => ?_) (fun c43 => ?_)
      · exfalso; omega
      · refine g_aload_n dX2_run_46 rfl ?_
        refine g_getA dX2_run_47 tf_2_71 (lc_b hB) rfl (crb10 hf0 hB) ?_
        refine g_iload dX2_run_50 rfl ?_
        refine g_ialdN (i) dX2_run_52 (lcb10 hB) (by omega) (by omega) ?_
        rw [e26]
        refine g_istore dX2_run_53 (by decide) rfl ?_
        refine g_iload_n dX2_run_55 rfl ?_
        refine g_aload_n dX2_run_56 rfl ?_
        refine g_getA dX2_run_57 tf_2_74 (lc_b hB) rfl (crb11 hf0 hB) ?_
        refine g_iload dX2_run_60 rfl ?_
        refine g_ialdN (i) dX2_run_62 (lcb11 hB) (by omega) (by omega) ?_
        rw [e27]
        refine g_isub dX2_run_63 rfl ⟨by omega, by omega⟩ ?_
        rw [show (H : Int) - ((H : Int) - (base : Int)) = (base : Int) from by omega]
        refine g_istore dX2_run_64 (by decide) rfl ?_
        refine g_iload dX2_run_66 rfl ?_
        refine g_if_lt (tgt := 92) dX2_run_68 (by decide) (fun c68 => ?_) (fun c68 => ?_)
        · exfalso; omega
        · refine g_iload dX2_run_71 rfl ?_
          refine g_iconst dX2_run_73 ⟨by decide, by decide⟩ ?_
          refine g_iadd dX2_run_74 rfl ⟨by omega, by omega⟩ ?_
          refine g_aload_n dX2_run_75 rfl ?_
          refine g_getA dX2_run_76 tf_2_18 rfl rfl (crf hf0 rfl) ?_
          refine g_alen dX2_run_79 rfl (by decide) ?_
          refine g_icmp_ge (tgt := 92) dX2_run_80 (by decide) (fun c80 => ?_) (fun c80 => ?_)
          · exfalso; omega
          · refine g_iload_n dX2_run_83 rfl ?_
            refine g_aload_n dX2_run_84 rfl ?_
            refine g_getA dX2_run_85 tf_2_18 rfl rfl (crf hf0 rfl) ?_
            refine g_alen dX2_run_88 rfl (by decide) ?_
            refine g_icmp_le (tgt := 96) dX2_run_89 (by decide) (fun c89 => ?_) (fun c89 => ?_)
            · refine g_aload_n dX2_run_96 rfl ?_
              refine g_getA dX2_run_97 tf_2_18 rfl rfl (crf hf0 rfl) ?_
              refine g_iload dX2_run_100 rfl ?_
              refine g_laldN (base) dX2_run_102 rfl (by omega) (by omega) ?_
              refine g_lstore dX2_run_103 (by decide) rfl ?_
              refine g_aload_n dX2_run_105 rfl ?_
              refine g_getA dX2_run_106 tf_2_77 (lc_b hB) rfl (crb9 hf0 hB) ?_
              refine g_iload dX2_run_109 rfl ?_
              refine g_ialdN (i) dX2_run_111 (lcb9 hB) (by omega) (by omega) ?_
              rw [e25]
              refine g_tsw_in (tgt := 209) dX2_run_112 ⟨by decide, by decide⟩ rfl (by decide) ?_
              refine g_lload dX2_run_209 rfl ?_
              refine g_aload_n dX2_run_211 rfl ?_
              refine g_getA dX2_run_212 tf_2_18 rfl rfl (crf hf0 rfl) ?_
              refine g_iload dX2_run_215 rfl ?_
              refine g_iconst dX2_run_217 ⟨by decide, by decide⟩ ?_
              refine g_iadd dX2_run_218 rfl ⟨by omega, by omega⟩ ?_
              refine g_laldN (base + 1) dX2_run_219 rfl (by omega) (by omega) ?_
              refine g_callsL dX2_run_220 tm_2_84 rfl ⟨Nat.le_of_ble_eq_true rfl, rfl, rfl⟩ (Nat.le_of_ble_eq_true rfl) (cc4_plus (by omega) s0 _ _ ha hb hx hy) (fun z220 s220 h220 => ?_)
              obtain ⟨h220, e220⟩ := h220
              obtain rfl := e220.symm
              subst h220
              refine g_lstore dX2_run_223 (by decide) rfl ?_
              refine g_goto (tgt := 333) dX2_run_225 (by decide) ?_
              have hf1 := hf0
              refine g_aload_n dX2_run_333 rfl ?_
              refine g_getA dX2_run_334 tf_2_18 rfl rfl (crf hf1 rfl) ?_
              refine g_iload dX2_run_337 rfl ?_
              refine g_lload dX2_run_339 rfl ?_
              refine g_lastN (base) dX2_run_341 rfl (by omega) (by omega) ?_
              refine g_iload dX2_run_342 rfl ?_
              refine g_iconst dX2_run_344 ⟨by decide, by decide⟩ ?_
              refine g_iadd dX2_run_345 rfl ⟨by omega, by omega⟩ ?_
              rw [show (base : Int) + 1 = ((base + 1 : Nat) : Int) from by omega]
              refine g_istore_n dX2_run_346 (by decide) rfl ?_
              refine g_iinc dX2_run_347 (by decide) rfl ⟨by omega, by omega⟩ (show (i : Int) + 1 = ((i + 1 : Nat) : Int) from by omega) rfl ?_
              refine g_goto (tgt := 22) dX2_run_350 (by decide) ?_
              exact hq _ _ _ _
            · exfalso; omega
theorem cc2_st_minus {d : Nat} (hd : 6 ≤ d) {σ : am_HS} {b : Nat} (hf : σ.2.2 = cH b) {B : Nat} (hB : B < 2) {r : Nat} (hr : r < 12) {Q : Option am_V → am_HS → Prop} (s0 : am_HS) (hst : StF 0 602 σ s0) (i H base : Nat) (arg : Int) (hi : i < 1200) (he : (i : Int) < hI σ (21 + 9 * B) r) (hH : base ≤ H ∧ H ≤ 601) (hbs : base ≤ 600) (hop : hI σ (25 + 9 * B) i = 3) (har : hI σ (26 + 9 * B) i = arg) (htk : hI σ (27 + 9 * B) i = (H : Int) - (base : Int)) {v w : Vl} (ha : vok v) (hb : vok w) (hx : hL s0 15 base = encV v) (hy : hL s0 15 (base + 1) = encV w) (hq : ∀ (o5 o6 o7 o8 : Option am_V), am_Go lc d 2 9 3 cX2_run 22 [some (vR (some 5)), some (vR (some (6 + B))), some (vI (r : Int)), some (vI ((base + 1 : Nat) : Int)), some (vI ((i + 1 : Nat) : Int)), o5, o6, o7, o8] [] (uL s0 15 base (encV (plV v (ngV w)))) Q) (o5 o6 o7 o8 : Option am_V) : am_Go lc d 2 9 3 cX2_run 22 [some (vR (some 5)), some (vR (some (6 + B))), some (vI (r : Int)), some (vI (H : Int)), some (vI (i : Int)), o5, o6, o7, o8] [] s0 Q := by
  have hf0 : s0.2.2 = cH b := hst.2.1.trans hf
  have e25 := (hst.hI (25 + 9 * B) i).trans hop
  have e26 := (hst.hI (26 + 9 * B) i).trans har
  have e27 := (hst.hI (27 + 9 * B) i).trans htk
  have e21 := hst.hI (21 + 9 * B) r

  refine g_iload dX2_run_22 rfl ?_
  refine g_if_lt (tgt := 353) dX2_run_24 (by decide) (fun c24 => ?_) (fun c24 => ?_)
  · exfalso; omega
  · refine g_iload dX2_run_27 rfl ?_
    refine g_aload_n dX2_run_29 rfl ?_
    refine g_getA dX2_run_30 tf_2_68 (lc_b hB) rfl (crb5 hf0 hB) ?_
    refine g_iload_n dX2_run_33 rfl ?_
    refine g_ialdN (r) dX2_run_34 (lcb5 hB) (by omega) (by omega) ?_
    refine g_icmp_ge (tgt := 353) dX2_run_35 (by decide) (fun c35 => ?_) (fun c35 => ?_)
    · exfalso; omega
    · refine g_iload dX2_run_38 rfl ?_
      refine g_sipush dX2_run_40 (by decide) ?_
      refine g_icmp_ge (tgt := 353) dX2_run_43 (by decide) (fun c43 => ?_) (fun c43 => ?_)
      · exfalso; omega
      · refine g_aload_n dX2_run_46 rfl ?_
        refine g_getA dX2_run_47 tf_2_71 (lc_b hB) rfl (crb10 hf0 hB) ?_
        refine g_iload dX2_run_50 rfl ?_
        refine g_ialdN (i) dX2_run_52 (lcb10 hB) (by omega) (by omega) ?_
        rw [e26]
        refine g_istore dX2_run_53 (by decide) rfl ?_
        refine g_iload_n dX2_run_55 rfl ?_
        refine g_aload_n dX2_run_56 rfl ?_
        refine g_getA dX2_run_57 tf_2_74 (lc_b hB) rfl (crb11 hf0 hB) ?_
        refine g_iload dX2_run_60 rfl ?_
        refine g_ialdN (i) dX2_run_62 (lcb11 hB) (by omega) (by omega) ?_
        rw [e27]
        refine g_isub dX2_run_63 rfl ⟨by omega, by omega⟩ ?_
        rw [show (H : Int) - ((H : Int) - (base : Int)) = (base : Int) from by omega]
        refine g_istore dX2_run_64 (by decide) rfl ?_
        refine g_iload dX2_run_66 rfl ?_
        refine g_if_lt (tgt := 92) dX2_run_68 (by decide) (fun c68 => ?_) (fun c68 => ?_)
        · exfalso; omega
        · refine g_iload dX2_run_71 rfl ?_
          refine g_iconst dX2_run_73 ⟨by decide, by decide⟩ ?_
          refine g_iadd dX2_run_74 rfl ⟨by omega, by omega⟩ ?_
          refine g_aload_n dX2_run_75 rfl ?_
          refine g_getA dX2_run_76 tf_2_18 rfl rfl (crf hf0 rfl) ?_
          refine g_alen dX2_run_79 rfl (by decide) ?_
          refine g_icmp_ge (tgt := 92) dX2_run_80 (by decide) (fun c80 => ?_) (fun c80 => ?_)
          · exfalso; omega
          · refine g_iload_n dX2_run_83 rfl ?_
            refine g_aload_n dX2_run_84 rfl ?_
            refine g_getA dX2_run_85 tf_2_18 rfl rfl (crf hf0 rfl) ?_
            refine g_alen dX2_run_88 rfl (by decide) ?_
            refine g_icmp_le (tgt := 96) dX2_run_89 (by decide) (fun c89 => ?_) (fun c89 => ?_)
            · refine g_aload_n dX2_run_96 rfl ?_
              refine g_getA dX2_run_97 tf_2_18 rfl rfl (crf hf0 rfl) ?_
              refine g_iload dX2_run_100 rfl ?_
              refine g_laldN (base) dX2_run_102 rfl (by omega) (by omega) ?_
              refine g_lstore dX2_run_103 (by decide) rfl ?_
              refine g_aload_n dX2_run_105 rfl ?_
              refine g_getA dX2_run_106 tf_2_77 (lc_b hB) rfl (crb9 hf0 hB) ?_
              refine g_iload dX2_run_109 rfl ?_
              refine g_ialdN (i) dX2_run_111 (lcb9 hB) (by omega) (by omega) ?_
              rw [e25]
              refine g_tsw_in (tgt := 228) dX2_run_112 ⟨by decide, by decide⟩ rfl (by decide) ?_
              refine g_lload dX2_run_228 rfl ?_
              refine g_aload_n dX2_run_230 rfl ?_
              refine g_getA dX2_run_231 tf_2_18 rfl rfl (crf hf0 rfl) ?_
              refine g_iload dX2_run_234 rfl ?_
              refine g_iconst dX2_run_236 ⟨by decide, by decide⟩ ?_
              refine g_iadd dX2_run_237 rfl ⟨by omega, by omega⟩ ?_
              refine g_laldN (base + 1) dX2_run_238 rfl (by omega) (by omega) ?_
              refine g_callsL dX2_run_239 tm_2_88 rfl ⟨Nat.le_of_ble_eq_true rfl, rfl, rfl⟩ (Nat.le_of_ble_eq_true rfl) (cc4_negated (by omega) s0 _ hb hy) (fun z239 s239 h239 => ?_)
              obtain ⟨h239, e239⟩ := h239
              obtain rfl := e239.symm
              refine g_callsL dX2_run_242 tm_2_84 rfl ⟨Nat.le_of_ble_eq_true rfl, rfl, rfl⟩ (Nat.le_of_ble_eq_true rfl) (cc4_plus (by omega) s0 _ _ ha (ngV_ok hb) hx h239) (fun z242 s242 h242 => ?_)
              obtain ⟨h242, e242⟩ := h242
              obtain rfl := e242.symm
              subst h242
              refine g_lstore dX2_run_245 (by decide) rfl ?_
              refine g_goto (tgt := 333) dX2_run_247 (by decide) ?_
              have hf1 := hf0
              refine g_aload_n dX2_run_333 rfl ?_
              refine g_getA dX2_run_334 tf_2_18 rfl rfl (crf hf1 rfl) ?_
              refine g_iload dX2_run_337 rfl ?_
              refine g_lload dX2_run_339 rfl ?_
              refine g_lastN (base) dX2_run_341 rfl (by omega) (by omega) ?_
              refine g_iload dX2_run_342 rfl ?_
              refine g_iconst dX2_run_344 ⟨by decide, by decide⟩ ?_
              refine g_iadd dX2_run_345 rfl ⟨by omega, by omega⟩ ?_
              rw [show (base : Int) + 1 = ((base + 1 : Nat) : Int) from by omega]
              refine g_istore_n dX2_run_346 (by decide) rfl ?_
              refine g_iinc dX2_run_347 (by decide) rfl ⟨by omega, by omega⟩ (show (i : Int) + 1 = ((i + 1 : Nat) : Int) from by omega) rfl ?_
              refine g_goto (tgt := 22) dX2_run_350 (by decide) ?_
              exact hq _ _ _ _
            · exfalso; omega
theorem cc2_st_times {d : Nat} (hd : 6 ≤ d) {σ : am_HS} {b : Nat} (hf : σ.2.2 = cH b) {B : Nat} (hB : B < 2) {r : Nat} (hr : r < 12) {Q : Option am_V → am_HS → Prop} (s0 : am_HS) (hst : StF 0 602 σ s0) (i H base : Nat) (arg : Int) (hi : i < 1200) (he : (i : Int) < hI σ (21 + 9 * B) r) (hH : base ≤ H ∧ H ≤ 601) (hbs : base ≤ 600) (hop : hI σ (25 + 9 * B) i = 4) (har : hI σ (26 + 9 * B) i = arg) (htk : hI σ (27 + 9 * B) i = (H : Int) - (base : Int)) {v : WV} {w : Vl} (ha : wok v) (hb : vok w) (hx : hL s0 15 base = encW v) (hy : hL s0 15 (base + 1) = encV w) (hq : ∀ (o5 o6 o7 o8 : Option am_V), am_Go lc d 2 9 3 cX2_run 22 [some (vR (some 5)), some (vR (some (6 + B))), some (vI (r : Int)), some (vI ((base + 1 : Nat) : Int)), some (vI ((i + 1 : Nat) : Int)), o5, o6, o7, o8] [] (uL s0 15 base (encW (tmW v w))) Q) (o5 o6 o7 o8 : Option am_V) : am_Go lc d 2 9 3 cX2_run 22 [some (vR (some 5)), some (vR (some (6 + B))), some (vI (r : Int)), some (vI (H : Int)), some (vI (i : Int)), o5, o6, o7, o8] [] s0 Q := by
  have hf0 : s0.2.2 = cH b := hst.2.1.trans hf
  have e25 := (hst.hI (25 + 9 * B) i).trans hop
  have e26 := (hst.hI (26 + 9 * B) i).trans har
  have e27 := (hst.hI (27 + 9 * B) i).trans htk
  have e21 := hst.hI (21 + 9 * B) r

  refine g_iload dX2_run_22 rfl ?_
  refine g_if_lt (tgt := 353) dX2_run_24 (by decide) (fun c24 => ?_) (fun c24 => ?_)
  · exfalso; omega
  · refine g_iload dX2_run_27 rfl ?_
    refine g_aload_n dX2_run_29 rfl ?_
    refine g_getA dX2_run_30 tf_2_68 (lc_b hB) rfl (crb5 hf0 hB) ?_
    refine g_iload_n dX2_run_33 rfl ?_
    refine g_ialdN (r) dX2_run_34 (lcb5 hB) (by omega) (by omega) ?_
    refine g_icmp_ge (tgt := 353) dX2_run_35 (by decide) (fun c35 => ?_) (fun c35 => ?_)
    · exfalso; omega
    · refine g_iload dX2_run_38 rfl ?_
      refine g_sipush dX2_run_40 (by decide) ?_
      refine g_icmp_ge (tgt := 353) dX2_run_43 (by decide) (fun c43 => ?_) (fun c43 => ?_)
      · exfalso; omega
      · refine g_aload_n dX2_run_46 rfl ?_
        refine g_getA dX2_run_47 tf_2_71 (lc_b hB) rfl (crb10 hf0 hB) ?_
        refine g_iload dX2_run_50 rfl ?_
        refine g_ialdN (i) dX2_run_52 (lcb10 hB) (by omega) (by omega) ?_
        rw [e26]
        refine g_istore dX2_run_53 (by decide) rfl ?_
        refine g_iload_n dX2_run_55 rfl ?_
        refine g_aload_n dX2_run_56 rfl ?_
        refine g_getA dX2_run_57 tf_2_74 (lc_b hB) rfl (crb11 hf0 hB) ?_
        refine g_iload dX2_run_60 rfl ?_
        refine g_ialdN (i) dX2_run_62 (lcb11 hB) (by omega) (by omega) ?_
        rw [e27]
        refine g_isub dX2_run_63 rfl ⟨by omega, by omega⟩ ?_
        rw [show (H : Int) - ((H : Int) - (base : Int)) = (base : Int) from by omega]
        refine g_istore dX2_run_64 (by decide) rfl ?_
        refine g_iload dX2_run_66 rfl ?_
        refine g_if_lt (tgt := 92) dX2_run_68 (by decide) (fun c68 => ?_) (fun c68 => ?_)
        · exfalso; omega
        · refine g_iload dX2_run_71 rfl ?_
          refine g_iconst dX2_run_73 ⟨by decide, by decide⟩ ?_
          refine g_iadd dX2_run_74 rfl ⟨by omega, by omega⟩ ?_
          refine g_aload_n dX2_run_75 rfl ?_
          refine g_getA dX2_run_76 tf_2_18 rfl rfl (crf hf0 rfl) ?_
          refine g_alen dX2_run_79 rfl (by decide) ?_
          refine g_icmp_ge (tgt := 92) dX2_run_80 (by decide) (fun c80 => ?_) (fun c80 => ?_)
          · exfalso; omega
          · refine g_iload_n dX2_run_83 rfl ?_
            refine g_aload_n dX2_run_84 rfl ?_
            refine g_getA dX2_run_85 tf_2_18 rfl rfl (crf hf0 rfl) ?_
            refine g_alen dX2_run_88 rfl (by decide) ?_
            refine g_icmp_le (tgt := 96) dX2_run_89 (by decide) (fun c89 => ?_) (fun c89 => ?_)
            · refine g_aload_n dX2_run_96 rfl ?_
              refine g_getA dX2_run_97 tf_2_18 rfl rfl (crf hf0 rfl) ?_
              refine g_iload dX2_run_100 rfl ?_
              refine g_laldN (base) dX2_run_102 rfl (by omega) (by omega) ?_
              refine g_lstore dX2_run_103 (by decide) rfl ?_
              refine g_aload_n dX2_run_105 rfl ?_
              refine g_getA dX2_run_106 tf_2_77 (lc_b hB) rfl (crb9 hf0 hB) ?_
              refine g_iload dX2_run_109 rfl ?_
              refine g_ialdN (i) dX2_run_111 (lcb9 hB) (by omega) (by omega) ?_
              rw [e25]
              refine g_tsw_in (tgt := 250) dX2_run_112 ⟨by decide, by decide⟩ rfl (by decide) ?_
              refine g_lload dX2_run_250 rfl ?_
              refine g_aload_n dX2_run_252 rfl ?_
              refine g_getA dX2_run_253 tf_2_18 rfl rfl (crf hf0 rfl) ?_
              refine g_iload dX2_run_256 rfl ?_
              refine g_iconst dX2_run_258 ⟨by decide, by decide⟩ ?_
              refine g_iadd dX2_run_259 rfl ⟨by omega, by omega⟩ ?_
              refine g_laldN (base + 1) dX2_run_260 rfl (by omega) (by omega) ?_
              refine g_callsL dX2_run_261 tm_2_92 rfl ⟨Nat.le_of_ble_eq_true rfl, rfl, rfl⟩ (Nat.le_of_ble_eq_true rfl) (cc4_times (by omega) s0 _ _ ha hb hx hy) (fun z261 s261 h261 => ?_)
              obtain ⟨h261, e261⟩ := h261
              obtain rfl := e261.symm
              subst h261
              refine g_lstore dX2_run_264 (by decide) rfl ?_
              refine g_goto (tgt := 333) dX2_run_266 (by decide) ?_
              have hf1 := hf0
              refine g_aload_n dX2_run_333 rfl ?_
              refine g_getA dX2_run_334 tf_2_18 rfl rfl (crf hf1 rfl) ?_
              refine g_iload dX2_run_337 rfl ?_
              refine g_lload dX2_run_339 rfl ?_
              refine g_lastN (base) dX2_run_341 rfl (by omega) (by omega) ?_
              refine g_iload dX2_run_342 rfl ?_
              refine g_iconst dX2_run_344 ⟨by decide, by decide⟩ ?_
              refine g_iadd dX2_run_345 rfl ⟨by omega, by omega⟩ ?_
              rw [show (base : Int) + 1 = ((base + 1 : Nat) : Int) from by omega]
              refine g_istore_n dX2_run_346 (by decide) rfl ?_
              refine g_iinc dX2_run_347 (by decide) rfl ⟨by omega, by omega⟩ (show (i : Int) + 1 = ((i + 1 : Nat) : Int) from by omega) rfl ?_
              refine g_goto (tgt := 22) dX2_run_350 (by decide) ?_
              exact hq _ _ _ _
            · exfalso; omega
theorem cc2_st_over {d : Nat} (hd : 6 ≤ d) {σ : am_HS} {b : Nat} (hf : σ.2.2 = cH b) {B : Nat} (hB : B < 2) {r : Nat} (hr : r < 12) {Q : Option am_V → am_HS → Prop} (s0 : am_HS) (hst : StF 0 602 σ s0) (i H base : Nat) (arg : Int) (hi : i < 1200) (he : (i : Int) < hI σ (21 + 9 * B) r) (hH : base ≤ H ∧ H ≤ 601) (hbs : base ≤ 600) (hop : hI σ (25 + 9 * B) i = 5) (har : hI σ (26 + 9 * B) i = arg) (htk : hI σ (27 + 9 * B) i = (H : Int) - (base : Int)) {v : WV} (ha : wok v) (hx : hL s0 15 base = encW v) (hv : 1 ≤ arg ∧ arg ≤ 9999) (hq : ∀ (o5 o6 o7 o8 : Option am_V), am_Go lc d 2 9 3 cX2_run 22 [some (vR (some 5)), some (vR (some (6 + B))), some (vI (r : Int)), some (vI ((base + 1 : Nat) : Int)), some (vI ((i + 1 : Nat) : Int)), o5, o6, o7, o8] [] (uL s0 15 base (encW (ovW v arg))) Q) (o5 o6 o7 o8 : Option am_V) : am_Go lc d 2 9 3 cX2_run 22 [some (vR (some 5)), some (vR (some (6 + B))), some (vI (r : Int)), some (vI (H : Int)), some (vI (i : Int)), o5, o6, o7, o8] [] s0 Q := by
  have hf0 : s0.2.2 = cH b := hst.2.1.trans hf
  have e25 := (hst.hI (25 + 9 * B) i).trans hop
  have e26 := (hst.hI (26 + 9 * B) i).trans har
  have e27 := (hst.hI (27 + 9 * B) i).trans htk
  have e21 := hst.hI (21 + 9 * B) r

  refine g_iload dX2_run_22 rfl ?_
  refine g_if_lt (tgt := 353) dX2_run_24 (by decide) (fun c24 => ?_) (fun c24 => ?_)
  · exfalso; omega
  · refine g_iload dX2_run_27 rfl ?_
    refine g_aload_n dX2_run_29 rfl ?_
    refine g_getA dX2_run_30 tf_2_68 (lc_b hB) rfl (crb5 hf0 hB) ?_
    refine g_iload_n dX2_run_33 rfl ?_
    refine g_ialdN (r) dX2_run_34 (lcb5 hB) (by omega) (by omega) ?_
    refine g_icmp_ge (tgt := 353) dX2_run_35 (by decide) (fun c35 => ?_) (fun c35 => ?_)
    · exfalso; omega
    · refine g_iload dX2_run_38 rfl ?_
      refine g_sipush dX2_run_40 (by decide) ?_
      refine g_icmp_ge (tgt := 353) dX2_run_43 (by decide) (fun c43 => ?_) (fun c43 => ?_)
      · exfalso; omega
      · refine g_aload_n dX2_run_46 rfl ?_
        refine g_getA dX2_run_47 tf_2_71 (lc_b hB) rfl (crb10 hf0 hB) ?_
        refine g_iload dX2_run_50 rfl ?_
        refine g_ialdN (i) dX2_run_52 (lcb10 hB) (by omega) (by omega) ?_
        rw [e26]
        refine g_istore dX2_run_53 (by decide) rfl ?_
        refine g_iload_n dX2_run_55 rfl ?_
        refine g_aload_n dX2_run_56 rfl ?_
        refine g_getA dX2_run_57 tf_2_74 (lc_b hB) rfl (crb11 hf0 hB) ?_
        refine g_iload dX2_run_60 rfl ?_
        refine g_ialdN (i) dX2_run_62 (lcb11 hB) (by omega) (by omega) ?_
        rw [e27]
        refine g_isub dX2_run_63 rfl ⟨by omega, by omega⟩ ?_
        rw [show (H : Int) - ((H : Int) - (base : Int)) = (base : Int) from by omega]
        refine g_istore dX2_run_64 (by decide) rfl ?_
        refine g_iload dX2_run_66 rfl ?_
        refine g_if_lt (tgt := 92) dX2_run_68 (by decide) (fun c68 => ?_) (fun c68 => ?_)
        · exfalso; omega
        · refine g_iload dX2_run_71 rfl ?_
          refine g_iconst dX2_run_73 ⟨by decide, by decide⟩ ?_
          refine g_iadd dX2_run_74 rfl ⟨by omega, by omega⟩ ?_
          refine g_aload_n dX2_run_75 rfl ?_
          refine g_getA dX2_run_76 tf_2_18 rfl rfl (crf hf0 rfl) ?_
          refine g_alen dX2_run_79 rfl (by decide) ?_
          refine g_icmp_ge (tgt := 92) dX2_run_80 (by decide) (fun c80 => ?_) (fun c80 => ?_)
          · exfalso; omega
          · refine g_iload_n dX2_run_83 rfl ?_
            refine g_aload_n dX2_run_84 rfl ?_
            refine g_getA dX2_run_85 tf_2_18 rfl rfl (crf hf0 rfl) ?_
            refine g_alen dX2_run_88 rfl (by decide) ?_
            refine g_icmp_le (tgt := 96) dX2_run_89 (by decide) (fun c89 => ?_) (fun c89 => ?_)
            · refine g_aload_n dX2_run_96 rfl ?_
              refine g_getA dX2_run_97 tf_2_18 rfl rfl (crf hf0 rfl) ?_
              refine g_iload dX2_run_100 rfl ?_
              refine g_laldN (base) dX2_run_102 rfl (by omega) (by omega) ?_
              refine g_lstore dX2_run_103 (by decide) rfl ?_
              refine g_aload_n dX2_run_105 rfl ?_
              refine g_getA dX2_run_106 tf_2_77 (lc_b hB) rfl (crb9 hf0 hB) ?_
              refine g_iload dX2_run_109 rfl ?_
              refine g_ialdN (i) dX2_run_111 (lcb9 hB) (by omega) (by omega) ?_
              rw [e25]
              refine g_tsw_in (tgt := 269) dX2_run_112 ⟨by decide, by decide⟩ rfl (by decide) ?_
              refine g_lload dX2_run_269 rfl ?_
              refine g_iload dX2_run_271 rfl ?_
              refine g_callsL dX2_run_273 tm_2_95 rfl ⟨Nat.le_of_ble_eq_true rfl, rfl, rfl⟩ (Nat.le_of_ble_eq_true rfl) (cc4_over (by omega) s0 _ ha hx arg ⟨by omega, by omega⟩) (fun z273 s273 h273 => ?_)
              obtain ⟨h273, e273⟩ := h273
              obtain rfl := e273.symm
              subst h273
              refine g_lstore dX2_run_276 (by decide) rfl ?_
              refine g_goto (tgt := 333) dX2_run_278 (by decide) ?_
              have hf1 := hf0
              refine g_aload_n dX2_run_333 rfl ?_
              refine g_getA dX2_run_334 tf_2_18 rfl rfl (crf hf1 rfl) ?_
              refine g_iload dX2_run_337 rfl ?_
              refine g_lload dX2_run_339 rfl ?_
              refine g_lastN (base) dX2_run_341 rfl (by omega) (by omega) ?_
              refine g_iload dX2_run_342 rfl ?_
              refine g_iconst dX2_run_344 ⟨by decide, by decide⟩ ?_
              refine g_iadd dX2_run_345 rfl ⟨by omega, by omega⟩ ?_
              rw [show (base : Int) + 1 = ((base + 1 : Nat) : Int) from by omega]
              refine g_istore_n dX2_run_346 (by decide) rfl ?_
              refine g_iinc dX2_run_347 (by decide) rfl ⟨by omega, by omega⟩ (show (i : Int) + 1 = ((i + 1 : Nat) : Int) from by omega) rfl ?_
              refine g_goto (tgt := 22) dX2_run_350 (by decide) ?_
              exact hq _ _ _ _
            · exfalso; omega
theorem cc2_st_ended {d : Nat} (hd : 6 ≤ d) {σ : am_HS} {b : Nat} (hf : σ.2.2 = cH b) {B : Nat} (hB : B < 2) {r : Nat} (hr : r < 12) {Q : Option am_V → am_HS → Prop} (s0 : am_HS) (hst : StF 0 602 σ s0) (i H base : Nat) (arg : Int) (hi : i < 1200) (he : (i : Int) < hI σ (21 + 9 * B) r) (hH : base ≤ H ∧ H ≤ 601) (hbs : base ≤ 600) (hop : hI σ (25 + 9 * B) i = 13) (har : hI σ (26 + 9 * B) i = arg) (htk : hI σ (27 + 9 * B) i = (H : Int) - (base : Int)) {v : WV} (ha : wok v) (hx : hL s0 15 base = encW v) (hq : ∀ (o5 o6 o7 o8 : Option am_V), am_Go lc d 2 9 3 cX2_run 22 [some (vR (some 5)), some (vR (some (6 + B))), some (vI (r : Int)), some (vI ((base + 1 : Nat) : Int)), some (vI ((i + 1 : Nat) : Int)), o5, o6, o7, o8] [] (uL s0 15 base (encV (enW v))) Q) (o5 o6 o7 o8 : Option am_V) : am_Go lc d 2 9 3 cX2_run 22 [some (vR (some 5)), some (vR (some (6 + B))), some (vI (r : Int)), some (vI (H : Int)), some (vI (i : Int)), o5, o6, o7, o8] [] s0 Q := by
  have hf0 : s0.2.2 = cH b := hst.2.1.trans hf
  have e25 := (hst.hI (25 + 9 * B) i).trans hop
  have e26 := (hst.hI (26 + 9 * B) i).trans har
  have e27 := (hst.hI (27 + 9 * B) i).trans htk
  have e21 := hst.hI (21 + 9 * B) r

  refine g_iload dX2_run_22 rfl ?_
  refine g_if_lt (tgt := 353) dX2_run_24 (by decide) (fun c24 => ?_) (fun c24 => ?_)
  · exfalso; omega
  · refine g_iload dX2_run_27 rfl ?_
    refine g_aload_n dX2_run_29 rfl ?_
    refine g_getA dX2_run_30 tf_2_68 (lc_b hB) rfl (crb5 hf0 hB) ?_
    refine g_iload_n dX2_run_33 rfl ?_
    refine g_ialdN (r) dX2_run_34 (lcb5 hB) (by omega) (by omega) ?_
    refine g_icmp_ge (tgt := 353) dX2_run_35 (by decide) (fun c35 => ?_) (fun c35 => ?_)
    · exfalso; omega
    · refine g_iload dX2_run_38 rfl ?_
      refine g_sipush dX2_run_40 (by decide) ?_
      refine g_icmp_ge (tgt := 353) dX2_run_43 (by decide) (fun c43 => ?_) (fun c43 => ?_)
      · exfalso; omega
      · refine g_aload_n dX2_run_46 rfl ?_
        refine g_getA dX2_run_47 tf_2_71 (lc_b hB) rfl (crb10 hf0 hB) ?_
        refine g_iload dX2_run_50 rfl ?_
        refine g_ialdN (i) dX2_run_52 (lcb10 hB) (by omega) (by omega) ?_
        rw [e26]
        refine g_istore dX2_run_53 (by decide) rfl ?_
        refine g_iload_n dX2_run_55 rfl ?_
        refine g_aload_n dX2_run_56 rfl ?_
        refine g_getA dX2_run_57 tf_2_74 (lc_b hB) rfl (crb11 hf0 hB) ?_
        refine g_iload dX2_run_60 rfl ?_
        refine g_ialdN (i) dX2_run_62 (lcb11 hB) (by omega) (by omega) ?_
        rw [e27]
        refine g_isub dX2_run_63 rfl ⟨by omega, by omega⟩ ?_
        rw [show (H : Int) - ((H : Int) - (base : Int)) = (base : Int) from by omega]
        refine g_istore dX2_run_64 (by decide) rfl ?_
        refine g_iload dX2_run_66 rfl ?_
        refine g_if_lt (tgt := 92) dX2_run_68 (by decide) (fun c68 => ?_) (fun c68 => ?_)
        · exfalso; omega
        · refine g_iload dX2_run_71 rfl ?_
          refine g_iconst dX2_run_73 ⟨by decide, by decide⟩ ?_
          refine g_iadd dX2_run_74 rfl ⟨by omega, by omega⟩ ?_
          refine g_aload_n dX2_run_75 rfl ?_
          refine g_getA dX2_run_76 tf_2_18 rfl rfl (crf hf0 rfl) ?_
          refine g_alen dX2_run_79 rfl (by decide) ?_
          refine g_icmp_ge (tgt := 92) dX2_run_80 (by decide) (fun c80 => ?_) (fun c80 => ?_)
          · exfalso; omega
          · refine g_iload_n dX2_run_83 rfl ?_
            refine g_aload_n dX2_run_84 rfl ?_
            refine g_getA dX2_run_85 tf_2_18 rfl rfl (crf hf0 rfl) ?_
            refine g_alen dX2_run_88 rfl (by decide) ?_
            refine g_icmp_le (tgt := 96) dX2_run_89 (by decide) (fun c89 => ?_) (fun c89 => ?_)
            · refine g_aload_n dX2_run_96 rfl ?_
              refine g_getA dX2_run_97 tf_2_18 rfl rfl (crf hf0 rfl) ?_
              refine g_iload dX2_run_100 rfl ?_
              refine g_laldN (base) dX2_run_102 rfl (by omega) (by omega) ?_
              refine g_lstore dX2_run_103 (by decide) rfl ?_
              refine g_aload_n dX2_run_105 rfl ?_
              refine g_getA dX2_run_106 tf_2_77 (lc_b hB) rfl (crb9 hf0 hB) ?_
              refine g_iload dX2_run_109 rfl ?_
              refine g_ialdN (i) dX2_run_111 (lcb9 hB) (by omega) (by omega) ?_
              rw [e25]
              refine g_tsw_in (tgt := 281) dX2_run_112 ⟨by decide, by decide⟩ rfl (by decide) ?_
              refine g_lload dX2_run_281 rfl ?_
              refine g_callsL dX2_run_283 tm_2_99 rfl ⟨Nat.le_of_ble_eq_true rfl, rfl, rfl⟩ (Nat.le_of_ble_eq_true rfl) (cc4_ended (by omega) s0 _ ha hx) (fun z283 s283 h283 => ?_)
              obtain ⟨h283, e283⟩ := h283
              obtain rfl := e283.symm
              subst h283
              refine g_lstore dX2_run_286 (by decide) rfl ?_
              refine g_goto (tgt := 333) dX2_run_288 (by decide) ?_
              have hf1 := hf0
              refine g_aload_n dX2_run_333 rfl ?_
              refine g_getA dX2_run_334 tf_2_18 rfl rfl (crf hf1 rfl) ?_
              refine g_iload dX2_run_337 rfl ?_
              refine g_lload dX2_run_339 rfl ?_
              refine g_lastN (base) dX2_run_341 rfl (by omega) (by omega) ?_
              refine g_iload dX2_run_342 rfl ?_
              refine g_iconst dX2_run_344 ⟨by decide, by decide⟩ ?_
              refine g_iadd dX2_run_345 rfl ⟨by omega, by omega⟩ ?_
              rw [show (base : Int) + 1 = ((base + 1 : Nat) : Int) from by omega]
              refine g_istore_n dX2_run_346 (by decide) rfl ?_
              refine g_iinc dX2_run_347 (by decide) rfl ⟨by omega, by omega⟩ (show (i : Int) + 1 = ((i + 1 : Nat) : Int) from by omega) rfl ?_
              refine g_goto (tgt := 22) dX2_run_350 (by decide) ?_
              exact hq _ _ _ _
            · exfalso; omega
theorem cc2_st_cap {d : Nat} (hd : 6 ≤ d) {σ : am_HS} {b : Nat} (hf : σ.2.2 = cH b) {B : Nat} (hB : B < 2) {r : Nat} (hr : r < 12) {Q : Option am_V → am_HS → Prop} (s0 : am_HS) (hst : StF 0 602 σ s0) (i H base : Nat) (arg : Int) (hi : i < 1200) (he : (i : Int) < hI σ (21 + 9 * B) r) (hH : base ≤ H ∧ H ≤ 601) (hbs : base ≤ 600) (hop : hI σ (25 + 9 * B) i = 11) (har : hI σ (26 + 9 * B) i = arg) (htk : hI σ (27 + 9 * B) i = (H : Int) - (base : Int)) {v : Vl} (ha : vok v) (hx : hL s0 15 base = encV v) (hv : 0 ≤ arg ∧ arg ≤ 9999) (hq : ∀ (o5 o6 o7 o8 : Option am_V), am_Go lc d 2 9 3 cX2_run 22 [some (vR (some 5)), some (vR (some (6 + B))), some (vI (r : Int)), some (vI ((base + 1 : Nat) : Int)), some (vI ((i + 1 : Nat) : Int)), o5, o6, o7, o8] [] (uL s0 15 base (encV (cpV v arg))) Q) (o5 o6 o7 o8 : Option am_V) : am_Go lc d 2 9 3 cX2_run 22 [some (vR (some 5)), some (vR (some (6 + B))), some (vI (r : Int)), some (vI (H : Int)), some (vI (i : Int)), o5, o6, o7, o8] [] s0 Q := by
  have hf0 : s0.2.2 = cH b := hst.2.1.trans hf
  have e25 := (hst.hI (25 + 9 * B) i).trans hop
  have e26 := (hst.hI (26 + 9 * B) i).trans har
  have e27 := (hst.hI (27 + 9 * B) i).trans htk
  have e21 := hst.hI (21 + 9 * B) r

  refine g_iload dX2_run_22 rfl ?_
  refine g_if_lt (tgt := 353) dX2_run_24 (by decide) (fun c24 => ?_) (fun c24 => ?_)
  · exfalso; omega
  · refine g_iload dX2_run_27 rfl ?_
    refine g_aload_n dX2_run_29 rfl ?_
    refine g_getA dX2_run_30 tf_2_68 (lc_b hB) rfl (crb5 hf0 hB) ?_
    refine g_iload_n dX2_run_33 rfl ?_
    refine g_ialdN (r) dX2_run_34 (lcb5 hB) (by omega) (by omega) ?_
    refine g_icmp_ge (tgt := 353) dX2_run_35 (by decide) (fun c35 => ?_) (fun c35 => ?_)
    · exfalso; omega
    · refine g_iload dX2_run_38 rfl ?_
      refine g_sipush dX2_run_40 (by decide) ?_
      refine g_icmp_ge (tgt := 353) dX2_run_43 (by decide) (fun c43 => ?_) (fun c43 => ?_)
      · exfalso; omega
      · refine g_aload_n dX2_run_46 rfl ?_
        refine g_getA dX2_run_47 tf_2_71 (lc_b hB) rfl (crb10 hf0 hB) ?_
        refine g_iload dX2_run_50 rfl ?_
        refine g_ialdN (i) dX2_run_52 (lcb10 hB) (by omega) (by omega) ?_
        rw [e26]
        refine g_istore dX2_run_53 (by decide) rfl ?_
        refine g_iload_n dX2_run_55 rfl ?_
        refine g_aload_n dX2_run_56 rfl ?_
        refine g_getA dX2_run_57 tf_2_74 (lc_b hB) rfl (crb11 hf0 hB) ?_
        refine g_iload dX2_run_60 rfl ?_
        refine g_ialdN (i) dX2_run_62 (lcb11 hB) (by omega) (by omega) ?_
        rw [e27]
        refine g_isub dX2_run_63 rfl ⟨by omega, by omega⟩ ?_
        rw [show (H : Int) - ((H : Int) - (base : Int)) = (base : Int) from by omega]
        refine g_istore dX2_run_64 (by decide) rfl ?_
        refine g_iload dX2_run_66 rfl ?_
        refine g_if_lt (tgt := 92) dX2_run_68 (by decide) (fun c68 => ?_) (fun c68 => ?_)
        · exfalso; omega
        · refine g_iload dX2_run_71 rfl ?_
          refine g_iconst dX2_run_73 ⟨by decide, by decide⟩ ?_
          refine g_iadd dX2_run_74 rfl ⟨by omega, by omega⟩ ?_
          refine g_aload_n dX2_run_75 rfl ?_
          refine g_getA dX2_run_76 tf_2_18 rfl rfl (crf hf0 rfl) ?_
          refine g_alen dX2_run_79 rfl (by decide) ?_
          refine g_icmp_ge (tgt := 92) dX2_run_80 (by decide) (fun c80 => ?_) (fun c80 => ?_)
          · exfalso; omega
          · refine g_iload_n dX2_run_83 rfl ?_
            refine g_aload_n dX2_run_84 rfl ?_
            refine g_getA dX2_run_85 tf_2_18 rfl rfl (crf hf0 rfl) ?_
            refine g_alen dX2_run_88 rfl (by decide) ?_
            refine g_icmp_le (tgt := 96) dX2_run_89 (by decide) (fun c89 => ?_) (fun c89 => ?_)
            · refine g_aload_n dX2_run_96 rfl ?_
              refine g_getA dX2_run_97 tf_2_18 rfl rfl (crf hf0 rfl) ?_
              refine g_iload dX2_run_100 rfl ?_
              refine g_laldN (base) dX2_run_102 rfl (by omega) (by omega) ?_
              refine g_lstore dX2_run_103 (by decide) rfl ?_
              refine g_aload_n dX2_run_105 rfl ?_
              refine g_getA dX2_run_106 tf_2_77 (lc_b hB) rfl (crb9 hf0 hB) ?_
              refine g_iload dX2_run_109 rfl ?_
              refine g_ialdN (i) dX2_run_111 (lcb9 hB) (by omega) (by omega) ?_
              rw [e25]
              refine g_tsw_in (tgt := 291) dX2_run_112 ⟨by decide, by decide⟩ rfl (by decide) ?_
              refine g_lload dX2_run_291 rfl ?_
              refine g_iload dX2_run_293 rfl ?_
              refine g_callsL dX2_run_295 tm_2_102 rfl ⟨Nat.le_of_ble_eq_true rfl, rfl, rfl⟩ (Nat.le_of_ble_eq_true rfl) (cc4_cap (by omega) s0 _ ha hx arg ⟨by omega, by omega⟩) (fun z295 s295 h295 => ?_)
              obtain ⟨h295, e295⟩ := h295
              obtain rfl := e295.symm
              subst h295
              refine g_lstore dX2_run_298 (by decide) rfl ?_
              refine g_goto (tgt := 333) dX2_run_300 (by decide) ?_
              have hf1 := hf0
              refine g_aload_n dX2_run_333 rfl ?_
              refine g_getA dX2_run_334 tf_2_18 rfl rfl (crf hf1 rfl) ?_
              refine g_iload dX2_run_337 rfl ?_
              refine g_lload dX2_run_339 rfl ?_
              refine g_lastN (base) dX2_run_341 rfl (by omega) (by omega) ?_
              refine g_iload dX2_run_342 rfl ?_
              refine g_iconst dX2_run_344 ⟨by decide, by decide⟩ ?_
              refine g_iadd dX2_run_345 rfl ⟨by omega, by omega⟩ ?_
              rw [show (base : Int) + 1 = ((base + 1 : Nat) : Int) from by omega]
              refine g_istore_n dX2_run_346 (by decide) rfl ?_
              refine g_iinc dX2_run_347 (by decide) rfl ⟨by omega, by omega⟩ (show (i : Int) + 1 = ((i + 1 : Nat) : Int) from by omega) rfl ?_
              refine g_goto (tgt := 22) dX2_run_350 (by decide) ?_
              exact hq _ _ _ _
            · exfalso; omega
theorem cc2_st_pass {d : Nat} (hd : 6 ≤ d) {σ : am_HS} {b : Nat} (hf : σ.2.2 = cH b) {B : Nat} (hB : B < 2) {r : Nat} (hr : r < 12) {Q : Option am_V → am_HS → Prop} (s0 : am_HS) (hst : StF 0 602 σ s0) (i H base : Nat) (arg : Int) (hi : i < 1200) (he : (i : Int) < hI σ (21 + 9 * B) r) (hH : base ≤ H ∧ H ≤ 601) (hbs : base ≤ 600) (hop : hI σ (25 + 9 * B) i = 12) (har : hI σ (26 + 9 * B) i = arg) (htk : hI σ (27 + 9 * B) i = (H : Int) - (base : Int)) {v : Vl} (ha : vok v) (hx : hL s0 15 base = encV v) (hv : 0 ≤ arg ∧ arg ≤ 9999) (hq : ∀ (o5 o6 o7 o8 : Option am_V), am_Go lc d 2 9 3 cX2_run 22 [some (vR (some 5)), some (vR (some (6 + B))), some (vI (r : Int)), some (vI ((base + 1 : Nat) : Int)), some (vI ((i + 1 : Nat) : Int)), o5, o6, o7, o8] [] (uL s0 15 base (encV (psV v arg))) Q) (o5 o6 o7 o8 : Option am_V) : am_Go lc d 2 9 3 cX2_run 22 [some (vR (some 5)), some (vR (some (6 + B))), some (vI (r : Int)), some (vI (H : Int)), some (vI (i : Int)), o5, o6, o7, o8] [] s0 Q := by
  have hf0 : s0.2.2 = cH b := hst.2.1.trans hf
  have e25 := (hst.hI (25 + 9 * B) i).trans hop
  have e26 := (hst.hI (26 + 9 * B) i).trans har
  have e27 := (hst.hI (27 + 9 * B) i).trans htk
  have e21 := hst.hI (21 + 9 * B) r

  refine g_iload dX2_run_22 rfl ?_
  refine g_if_lt (tgt := 353) dX2_run_24 (by decide) (fun c24 => ?_) (fun c24 => ?_)
  · exfalso; omega
  · refine g_iload dX2_run_27 rfl ?_
    refine g_aload_n dX2_run_29 rfl ?_
    refine g_getA dX2_run_30 tf_2_68 (lc_b hB) rfl (crb5 hf0 hB) ?_
    refine g_iload_n dX2_run_33 rfl ?_
    refine g_ialdN (r) dX2_run_34 (lcb5 hB) (by omega) (by omega) ?_
    refine g_icmp_ge (tgt := 353) dX2_run_35 (by decide) (fun c35 => ?_) (fun c35 => ?_)
    · exfalso; omega
    · refine g_iload dX2_run_38 rfl ?_
      refine g_sipush dX2_run_40 (by decide) ?_
      refine g_icmp_ge (tgt := 353) dX2_run_43 (by decide) (fun c43 => ?_) (fun c43 => ?_)
      · exfalso; omega
      · refine g_aload_n dX2_run_46 rfl ?_
        refine g_getA dX2_run_47 tf_2_71 (lc_b hB) rfl (crb10 hf0 hB) ?_
        refine g_iload dX2_run_50 rfl ?_
        refine g_ialdN (i) dX2_run_52 (lcb10 hB) (by omega) (by omega) ?_
        rw [e26]
        refine g_istore dX2_run_53 (by decide) rfl ?_
        refine g_iload_n dX2_run_55 rfl ?_
        refine g_aload_n dX2_run_56 rfl ?_
        refine g_getA dX2_run_57 tf_2_74 (lc_b hB) rfl (crb11 hf0 hB) ?_
        refine g_iload dX2_run_60 rfl ?_
        refine g_ialdN (i) dX2_run_62 (lcb11 hB) (by omega) (by omega) ?_
        rw [e27]
        refine g_isub dX2_run_63 rfl ⟨by omega, by omega⟩ ?_
        rw [show (H : Int) - ((H : Int) - (base : Int)) = (base : Int) from by omega]
        refine g_istore dX2_run_64 (by decide) rfl ?_
        refine g_iload dX2_run_66 rfl ?_
        refine g_if_lt (tgt := 92) dX2_run_68 (by decide) (fun c68 => ?_) (fun c68 => ?_)
        · exfalso; omega
        · refine g_iload dX2_run_71 rfl ?_
          refine g_iconst dX2_run_73 ⟨by decide, by decide⟩ ?_
          refine g_iadd dX2_run_74 rfl ⟨by omega, by omega⟩ ?_
          refine g_aload_n dX2_run_75 rfl ?_
          refine g_getA dX2_run_76 tf_2_18 rfl rfl (crf hf0 rfl) ?_
          refine g_alen dX2_run_79 rfl (by decide) ?_
          refine g_icmp_ge (tgt := 92) dX2_run_80 (by decide) (fun c80 => ?_) (fun c80 => ?_)
          · exfalso; omega
          · refine g_iload_n dX2_run_83 rfl ?_
            refine g_aload_n dX2_run_84 rfl ?_
            refine g_getA dX2_run_85 tf_2_18 rfl rfl (crf hf0 rfl) ?_
            refine g_alen dX2_run_88 rfl (by decide) ?_
            refine g_icmp_le (tgt := 96) dX2_run_89 (by decide) (fun c89 => ?_) (fun c89 => ?_)
            · refine g_aload_n dX2_run_96 rfl ?_
              refine g_getA dX2_run_97 tf_2_18 rfl rfl (crf hf0 rfl) ?_
              refine g_iload dX2_run_100 rfl ?_
              refine g_laldN (base) dX2_run_102 rfl (by omega) (by omega) ?_
              refine g_lstore dX2_run_103 (by decide) rfl ?_
              refine g_aload_n dX2_run_105 rfl ?_
              refine g_getA dX2_run_106 tf_2_77 (lc_b hB) rfl (crb9 hf0 hB) ?_
              refine g_iload dX2_run_109 rfl ?_
              refine g_ialdN (i) dX2_run_111 (lcb9 hB) (by omega) (by omega) ?_
              rw [e25]
              refine g_tsw_in (tgt := 303) dX2_run_112 ⟨by decide, by decide⟩ rfl (by decide) ?_
              refine g_lload dX2_run_303 rfl ?_
              refine g_iload dX2_run_305 rfl ?_
              refine g_callsL dX2_run_307 tm_2_105 rfl ⟨Nat.le_of_ble_eq_true rfl, rfl, rfl⟩ (Nat.le_of_ble_eq_true rfl) (cc4_pass (by omega) s0 _ ha hx arg ⟨by omega, by omega⟩) (fun z307 s307 h307 => ?_)
              obtain ⟨h307, e307⟩ := h307
              obtain rfl := e307.symm
              subst h307
              refine g_lstore dX2_run_310 (by decide) rfl ?_
              refine g_goto (tgt := 333) dX2_run_312 (by decide) ?_
              have hf1 := hf0
              refine g_aload_n dX2_run_333 rfl ?_
              refine g_getA dX2_run_334 tf_2_18 rfl rfl (crf hf1 rfl) ?_
              refine g_iload dX2_run_337 rfl ?_
              refine g_lload dX2_run_339 rfl ?_
              refine g_lastN (base) dX2_run_341 rfl (by omega) (by omega) ?_
              refine g_iload dX2_run_342 rfl ?_
              refine g_iconst dX2_run_344 ⟨by decide, by decide⟩ ?_
              refine g_iadd dX2_run_345 rfl ⟨by omega, by omega⟩ ?_
              rw [show (base : Int) + 1 = ((base + 1 : Nat) : Int) from by omega]
              refine g_istore_n dX2_run_346 (by decide) rfl ?_
              refine g_iinc dX2_run_347 (by decide) rfl ⟨by omega, by omega⟩ (show (i : Int) + 1 = ((i + 1 : Nat) : Int) from by omega) rfl ?_
              refine g_goto (tgt := 22) dX2_run_350 (by decide) ?_
              exact hq _ _ _ _
            · exfalso; omega
theorem cc2_st_list {d : Nat} (hd : 6 ≤ d) {σ : am_HS} {b : Nat} (hf : σ.2.2 = cH b) {B : Nat} (hB : B < 2) {r : Nat} (hr : r < 12) {Q : Option am_V → am_HS → Prop} (s0 : am_HS) (hst : StF 0 602 σ s0) (i H base : Nat) {n : Nat} {lop : Int} (arg : Int) (hi : i < 1200) (he : (i : Int) < hI σ (21 + 9 * B) r) (hH : base ≤ H ∧ H ≤ 601) (hbs : base ≤ 600) (hop : hI σ (25 + 9 * B) i = lop + 2) (har : hI σ (26 + 9 * B) i = arg) (htk : hI σ (27 + 9 * B) i = (H : Int) - (base : Int)) (V : List Vl) (hVn : V.length = n) (hHn : H = base + n) (hv : ∀ v ∈ V, vok v) (hl : LVs s0 base V) (hlop : 4 ≤ lop ∧ lop ≤ 8) (num : Int) (hnum : 0 ≤ num ∧ num ≤ 9999) (hk : 7 ≤ lop → arg = num) (hq : ∀ (s1 : am_HS) (o5 o6 o7 o8 : Option am_V), StF base n s0 s1 → am_Go lc d 2 9 3 cX2_run 22 [some (vR (some 5)), some (vR (some (6 + B))), some (vI (r : Int)), some (vI ((base + 1 : Nat) : Int)), some (vI ((i + 1 : Nat) : Int)), o5, o6, o7, o8] [] (uL s1 15 base (encV (comb lop num (ceN V)))) Q) (o5 o6 o7 o8 : Option am_V) : am_Go lc d 2 9 3 cX2_run 22 [some (vR (some 5)), some (vR (some (6 + B))), some (vI (r : Int)), some (vI (H : Int)), some (vI (i : Int)), o5, o6, o7, o8] [] s0 Q := by
  have hf0 : s0.2.2 = cH b := hst.2.1.trans hf
  have e25 := (hst.hI (25 + 9 * B) i).trans hop
  have e26 := (hst.hI (26 + 9 * B) i).trans har
  have e27 := (hst.hI (27 + 9 * B) i).trans htk
  have e21 := hst.hI (21 + 9 * B) r

  refine g_iload dX2_run_22 rfl ?_
  refine g_if_lt (tgt := 353) dX2_run_24 (by decide) (fun c24 => ?_) (fun c24 => ?_)
  · exfalso; omega
  · refine g_iload dX2_run_27 rfl ?_
    refine g_aload_n dX2_run_29 rfl ?_
    refine g_getA dX2_run_30 tf_2_68 (lc_b hB) rfl (crb5 hf0 hB) ?_
    refine g_iload_n dX2_run_33 rfl ?_
    refine g_ialdN (r) dX2_run_34 (lcb5 hB) (by omega) (by omega) ?_
    refine g_icmp_ge (tgt := 353) dX2_run_35 (by decide) (fun c35 => ?_) (fun c35 => ?_)
    · exfalso; omega
    · refine g_iload dX2_run_38 rfl ?_
      refine g_sipush dX2_run_40 (by decide) ?_
      refine g_icmp_ge (tgt := 353) dX2_run_43 (by decide) (fun c43 => ?_) (fun c43 => ?_)
      · exfalso; omega
      · refine g_aload_n dX2_run_46 rfl ?_
        refine g_getA dX2_run_47 tf_2_71 (lc_b hB) rfl (crb10 hf0 hB) ?_
        refine g_iload dX2_run_50 rfl ?_
        refine g_ialdN (i) dX2_run_52 (lcb10 hB) (by omega) (by omega) ?_
        rw [e26]
        refine g_istore dX2_run_53 (by decide) rfl ?_
        refine g_iload_n dX2_run_55 rfl ?_
        refine g_aload_n dX2_run_56 rfl ?_
        refine g_getA dX2_run_57 tf_2_74 (lc_b hB) rfl (crb11 hf0 hB) ?_
        refine g_iload dX2_run_60 rfl ?_
        refine g_ialdN (i) dX2_run_62 (lcb11 hB) (by omega) (by omega) ?_
        rw [e27]
        refine g_isub dX2_run_63 rfl ⟨by omega, by omega⟩ ?_
        rw [show (H : Int) - ((H : Int) - (base : Int)) = (base : Int) from by omega]
        refine g_istore dX2_run_64 (by decide) rfl ?_
        refine g_iload dX2_run_66 rfl ?_
        refine g_if_lt (tgt := 92) dX2_run_68 (by decide) (fun c68 => ?_) (fun c68 => ?_)
        · exfalso; omega
        · refine g_iload dX2_run_71 rfl ?_
          refine g_iconst dX2_run_73 ⟨by decide, by decide⟩ ?_
          refine g_iadd dX2_run_74 rfl ⟨by omega, by omega⟩ ?_
          refine g_aload_n dX2_run_75 rfl ?_
          refine g_getA dX2_run_76 tf_2_18 rfl rfl (crf hf0 rfl) ?_
          refine g_alen dX2_run_79 rfl (by decide) ?_
          refine g_icmp_ge (tgt := 92) dX2_run_80 (by decide) (fun c80 => ?_) (fun c80 => ?_)
          · exfalso; omega
          · refine g_iload_n dX2_run_83 rfl ?_
            refine g_aload_n dX2_run_84 rfl ?_
            refine g_getA dX2_run_85 tf_2_18 rfl rfl (crf hf0 rfl) ?_
            refine g_alen dX2_run_88 rfl (by decide) ?_
            refine g_icmp_le (tgt := 96) dX2_run_89 (by decide) (fun c89 => ?_) (fun c89 => ?_)
            · refine g_aload_n dX2_run_96 rfl ?_
              refine g_getA dX2_run_97 tf_2_18 rfl rfl (crf hf0 rfl) ?_
              refine g_iload dX2_run_100 rfl ?_
              refine g_laldN (base) dX2_run_102 rfl (by omega) (by omega) ?_
              refine g_lstore dX2_run_103 (by decide) rfl ?_
              refine g_aload_n dX2_run_105 rfl ?_
              refine g_getA dX2_run_106 tf_2_77 (lc_b hB) rfl (crb9 hf0 hB) ?_
              refine g_iload dX2_run_109 rfl ?_
              refine g_ialdN (i) dX2_run_111 (lcb9 hB) (by omega) (by omega) ?_
              rw [e25]
              have hgo : ∀ (Q2 : Prop), Q2 → Q2 := fun _ h => h
              suffices hS : am_Go lc d 2 9 3 cX2_run 315 [some (vR (some 5)), some (vR (some (6 + B))), some (vI (r : Int)), some (vI (H : Int)), some (vI (i : Int)), some (vI arg), some (vI (base : Int)), some (vL (hL s0 15 base)), none] [] s0 Q by
                obtain h | h | h | h | h : lop = 4 ∨ lop = 5 ∨ lop = 6 ∨ lop = 7 ∨ lop = 8 := by omega
                all_goals
                  subst h
                  exact g_tsw_in (tgt := 315) dX2_run_112 ⟨by decide, by decide⟩ rfl (by decide) hS
              refine g_aload_n dX2_run_315 rfl ?_
              refine g_aload_n dX2_run_316 rfl ?_
              refine g_getA dX2_run_317 tf_2_77 (lc_b hB) rfl (crb9 hf0 hB) ?_
              refine g_iload dX2_run_320 rfl ?_
              refine g_ialdN (i) dX2_run_322 (lcb9 hB) (by omega) (by omega) ?_
              rw [e25]
              refine g_iload dX2_run_323 rfl ?_
              refine g_iload dX2_run_325 rfl ?_
              refine g_iload_n dX2_run_327 rfl ?_
              refine g_callvL dX2_run_328 tm_2_108 rfl ⟨rfl, rfl⟩ rfl (Nat.le_of_ble_eq_true rfl) ((by rw [show (H : Int) = ((base + V.length : Nat) : Int) from by omega]; exact cc2_ofList (by omega) s0 hf0 base V (by omega) hv hl lop num arg hlop hnum hk)) (fun z328 s328 h328 => ?_)
              obtain ⟨h328, hst1⟩ := h328
              rw [hVn] at hst1
              have hf1 : s328.2.2 = cH b := hst1.2.1.trans hf0
              subst h328
              refine g_lstore dX2_run_331 (by decide) rfl ?_
              refine g_aload_n dX2_run_333 rfl ?_
              refine g_getA dX2_run_334 tf_2_18 rfl rfl (crf hf1 rfl) ?_
              refine g_iload dX2_run_337 rfl ?_
              refine g_lload dX2_run_339 rfl ?_
              refine g_lastN (base) dX2_run_341 rfl (by omega) (by omega) ?_
              refine g_iload dX2_run_342 rfl ?_
              refine g_iconst dX2_run_344 ⟨by decide, by decide⟩ ?_
              refine g_iadd dX2_run_345 rfl ⟨by omega, by omega⟩ ?_
              rw [show (base : Int) + 1 = ((base + 1 : Nat) : Int) from by omega]
              refine g_istore_n dX2_run_346 (by decide) rfl ?_
              refine g_iinc dX2_run_347 (by decide) rfl ⟨by omega, by omega⟩ (show (i : Int) + 1 = ((i + 1 : Nat) : Int) from by omega) rfl ?_
              refine g_goto (tgt := 22) dX2_run_350 (by decide) ?_
              exact hq _ _ _ _ _ hst1
            · exfalso; omega
