/-! THE CLASS: lists, the walk -/
theorem LA.take {s : am_HS} {F m : Nat} {L : List (Int × Int)} (h : LA s F L) : LA s F (L.take m) := fun k a hk => h k a (by
  rw [List.getElem?_take] at hk
  split at hk
  · exact hk
  · cases hk)
theorem LA.drop {s : am_HS} {F m : Nat} {L : List (Int × Int)} (h : LA s F L) : LA s (F + m) (L.drop m) := fun k a hk => by
  rw [List.getElem?_drop] at hk
  rw [show F + m + k = F + (m + k) by omega]
  exact h _ a hk
theorem cc2_l191 {d : Nat} (hd : 3 ≤ d) {σ : am_HS} {b : Nat} (F n : Nat) (s : am_HS) (hfs : s.2.2 = cH b) (hst : StF F n σ s) (op k H fr tt mm : Int) (v : Vl) (S : List (Int × Int)) (f : Nat) (hf2 : f + S.length ≤ 602) (hl : LA s f S) (hv : ∀ a ∈ S, vok (some (some a))) (hop : op ≠ 8) (hfr : fr = (f : Int)) (hto : tt = ((f + S.length : Nat) : Int)) (hres : v = sumL S) (o8 o9 o10 : Option am_V) : am_Go lc d 2 11 3 cX2_ofList 191 [some (vR (some 5)), some (vI op), some (vI k), some (vI (F : Int)), some (vI H), some (vI fr), some (vI tt), some (vI mm), o8, o9, o10] [] s (qL fun z s => z = encV v ∧ StF F n σ s) := by
  subst hfr
  subst hto
  refine g_lconst1 dX2_ofList_191 ?_
  refine g_lstore dX2_ofList_192 (by decide) rfl ?_
  refine g_iload dX2_ofList_194 rfl ?_
  refine g_istore dX2_ofList_196 (by decide) rfl ?_
  refine cc2_sumLp (by omega) s hfs op k (F : Int) H (f : Int) mm _ S f (vN 0 1) hf2 hl hv ⟨by decide, by decide, by decide, by decide, by decide⟩ (fun i => ?_)
  refine g_iload_n dX2_ofList_240 rfl ?_
  refine g_bipush dX2_ofList_241 (by decide) ?_
  refine g_icmp_ne (tgt := 259) dX2_ofList_243 (by decide) (fun c243 => ?_) (fun c243 => ?_)
  · refine g_lload dX2_ofList_259 rfl ?_
    refine g_lreturn dX2_ofList_261 rfl ⟨_, rfl, ?_⟩
    exact ⟨by rw [hres, sumL_pl], hst⟩
  · exfalso; omega
theorem cc2_l191m {d : Nat} (hd : 3 ≤ d) {σ : am_HS} {b : Nat} (F n : Nat) (s : am_HS) (hfs : s.2.2 = cH b) (hst : StF F n σ s) (k H tt : Int) (v : Vl) (S : List (Int × Int)) (hS : S ≠ []) (hf2 : F + S.length ≤ 602) (hl : LA s F S) (hv : ∀ a ∈ S, vok (some (some a))) (hto : tt = ((F + S.length : Nat) : Int)) (hres : v = divV (sumL S) (S.length : Int)) (o8 o9 o10 : Option am_V) : am_Go lc d 2 11 3 cX2_ofList 191 [some (vR (some 5)), some (vI 8), some (vI k), some (vI (F : Int)), some (vI H), some (vI (F : Int)), some (vI tt), some (vI (S.length : Int)), o8, o9, o10] [] s (qL fun z s => z = encV v ∧ StF F n σ s) := by
  subst hto
  have hS1 : 1 ≤ S.length := by
    rcases S with _ | ⟨a, t⟩
    · exact absurd rfl hS
    · simp
  have hso : vok (sumL S) := sumL_ok S (vN 0 1) ⟨by decide, by decide, by decide, by decide, by decide⟩ hv
  have hno : sumL S ≠ vO := by
    have : ∀ (l : List (Int × Int)) (a : Vl), a ≠ vO → l.foldl (fun acc q => addV acc q.1 q.2) a ≠ vO := fun l => by
      induction l with
      | nil => exact fun a h => h
      | cons q t ih => exact fun a h => ih _ (addV_nO h)
    exact this S (vN 0 1) (by simp)
  refine g_lconst1 dX2_ofList_191 ?_
  refine g_lstore dX2_ofList_192 (by decide) rfl ?_
  refine g_iload dX2_ofList_194 rfl ?_
  refine g_istore dX2_ofList_196 (by decide) rfl ?_
  refine cc2_sumLp (by omega) s hfs 8 k (F : Int) H (F : Int) (S.length : Int) _ S F (vN 0 1) hf2 hl hv ⟨by decide, by decide, by decide, by decide, by decide⟩ (fun i => ?_)
  refine g_iload_n dX2_ofList_240 rfl ?_
  refine g_bipush dX2_ofList_241 (by decide) ?_
  refine g_icmp_ne (tgt := 259) dX2_ofList_243 (by decide) (fun c243 => ?_) (fun c243 => ?_)
  · exfalso; omega
  · refine g_lload dX2_ofList_246 rfl ?_
    refine g_iload dX2_ofList_248 rfl ?_
    refine g_callsL dX2_ofList_250 tm_2_95 rfl ⟨Nat.le_of_ble_eq_true rfl, rfl, rfl⟩ (Nat.le_of_ble_eq_true rfl) (cc4_over (by omega) s _ (w := some (sumL S)) hso (by rw [sumL_pl]; rfl) (S.length : Int) ⟨by omega, by omega⟩) (fun z250 s250 h250 => ?_)
    obtain ⟨h250, e250⟩ := h250
    obtain rfl := e250.symm
    refine g_callsL dX2_ofList_253 tm_2_99 rfl ⟨Nat.le_of_ble_eq_true rfl, rfl, rfl⟩ (Nat.le_of_ble_eq_true rfl) (cc4_ended (by omega) s _ (ovW_ok (x := some (sumL S)) hso (by omega)) h250) (fun z253 s253 h253 => ?_)
    obtain ⟨h253, e253⟩ := h253
    obtain rfl := e253.symm
    refine g_goto (tgt := 261) dX2_ofList_256 (by decide) ?_
    refine g_lreturn dX2_ofList_261 rfl ⟨_, rfl, ?_⟩
    exact ⟨by rw [h253, ov_div hno, hres], hst⟩
theorem cc2_ofList {D : Nat} (hD : 5 ≤ D) (σ : am_HS) {b : Nat} (hf : σ.2.2 = cH b) (F : Nat) (V : List Vl) (hn : F + V.length ≤ 602) (hv : ∀ v ∈ V, vok v) (hl : LVs σ F V) (op num k : Int) (hop : 4 ≤ op ∧ op ≤ 8) (hnum : 0 ≤ num ∧ num ≤ 9999) (hk : 7 ≤ op → k = num) : am_Do lc D mX2_ofList σ [vR (some 5), vI (op + 2), vI k, vI (F : Int), vI ((F + V.length : Nat) : Int)] (qL fun z s => z = encV (comb op num (ceN V)) ∧ StF F V.length σ s) := by
  obtain ⟨d, rfl⟩ : ∃ d, D = d + 1 := ⟨D - 1, by omega⟩
  refine am_enter rfl rfl (Nat.le_of_ble_eq_true rfl) ?_
  refine g_iload_n dX2_ofList_0 rfl ?_
  refine g_istore dX2_ofList_1 (by decide) rfl ?_
  refine g_iload_n dX2_ofList_3 rfl ?_
  refine g_istore dX2_ofList_4 (by decide) rfl ?_
  refine g_iload_n dX2_ofList_6 rfl ?_
  refine g_istore dX2_ofList_7 (by decide) rfl ?_
  have hxx : ∀ s, (∃ v ∈ V, v = vX) → StF F V.length σ s → (qL fun z s => z = encV (comb op num (ceN V)) ∧ StF F V.length σ s) (some (vL 4294967296)) s := fun s hX hst => by
    refine ⟨_, rfl, ?_, hst⟩
    have : comb op num (ceN V) = vX := by
      unfold comb
      rw [if_pos ((anyX V).mpr hX)]
    rw [this]
    rfl
  refine cc2_scan (by omega) σ hf F V hn hv (op + 2) k _ hxx (fun s o8 o9 o10 hX hst hla => ?_) V [] σ _ _ _ rfl (fun v h => by cases h) (StF.rf _ _ _) (fun j a h => by cases h) hl
  · have hfs : s.2.2 = cH b := hst.2.1.trans hf
    have hnl := nums_le V
    have hvn := nums_ok hv
    have hc := fun h => comb_list (op := op) (num := num) hX h hv hop
    obtain ⟨L, hL⟩ : ∃ L, nums V = L := ⟨_, rfl⟩
    rw [hL] at hla hnl hvn hc ⊢
    refine g_iload dX2_ofList_94 rfl ?_
    refine g_iload dX2_ofList_96 rfl ?_
    refine g_isub dX2_ofList_98 rfl ⟨by omega, by omega⟩ ?_
    rw [show ((F + L.length : Nat) : Int) - (F : Int) = (L.length : Int) from by omega]
    refine g_istore dX2_ofList_99 (by decide) rfl ?_
    refine g_iload dX2_ofList_101 rfl ?_
    refine g_if_ne (tgt := 108) dX2_ofList_103 (by decide) (fun c103 => ?_) (fun c103 => ?_)
    · have hL1 : L ≠ [] := fun z => c103 (by rw [z]; rfl)
      have hc := hc hL1
      have hlp : 0 < L.length := List.length_pos_iff.mpr hL1
      refine g_iload_n dX2_ofList_108 rfl ?_
      refine g_bipush dX2_ofList_109 (by decide) ?_
      refine g_icmp_eq (tgt := 122) dX2_ofList_111 (by decide) (fun c111 => ?_) (fun c111 => ?_)
      · have ho6 : op = 6 := by omega
        subst ho6
        refine g_iload_n dX2_ofList_122 rfl ?_
        refine g_bipush dX2_ofList_123 (by decide) ?_
        refine g_icmp_ne (tgt := 137) dX2_ofList_125 (by decide) (fun c125 => ?_) (fun c125 => ?_)
        · refine g_iload_n dX2_ofList_137 rfl ?_
          refine g_bipush dX2_ofList_138 (by decide) ?_
          refine g_icmp_ne (tgt := 152) dX2_ofList_140 (by decide) (fun c140 => ?_) (fun c140 => ?_)
          · refine g_iload_n dX2_ofList_152 rfl ?_
            refine g_bipush dX2_ofList_153 (by decide) ?_
            refine g_icmp_ne (tgt := 172) dX2_ofList_155 (by decide) (fun c155 => ?_) (fun c155 => ?_)
            · refine g_iload_n dX2_ofList_172 rfl ?_
              refine g_bipush dX2_ofList_173 (by decide) ?_
              refine g_icmp_ne (tgt := 191) dX2_ofList_175 (by decide) (fun c175 => ?_) (fun c175 => ?_)
              · exact cc2_l191m (by omega) F V.length s hfs hst k _ _ _ L hL1 (by omega) hla hvn rfl (by rw [hc, if_pos rfl]) _ _ _
              · exfalso; omega
            · exfalso; omega
          · exfalso; omega
        · exfalso; omega
      · refine g_aload_n dX2_ofList_114 rfl ?_
        refine g_iload dX2_ofList_115 rfl ?_
        refine g_iload dX2_ofList_117 rfl ?_
        refine g_callvV dX2_ofList_119 tm_2_112 rfl ⟨rfl, rfl⟩ rfl (Nat.le_of_ble_eq_true rfl) (cc2_sortDown (by omega) s hfs F L (by omega) hvn hla) (fun s119 h119 => ?_)
        obtain ⟨hst2, hla2⟩ := h119
        have hst3 := hst.tr hst2 ⟨Nat.le_refl _, by omega⟩
        have hf3 : s119.2.2 = cH b := hst3.2.1.trans hf
        have hlr : (sortR qlt L).reverse.length = L.length := by rw [List.length_reverse, sortR_len]
        have hvr : ∀ a ∈ (sortR qlt L).reverse, vok (some (some a)) := fun a ha => hvn a (sortR_mem (List.mem_reverse.mp ha))
        refine g_iload_n dX2_ofList_122 rfl ?_
        refine g_bipush dX2_ofList_123 (by decide) ?_
        refine g_icmp_ne (tgt := 137) dX2_ofList_125 (by decide) (fun c125 => ?_) (fun c125 => ?_)
        · refine g_iload_n dX2_ofList_137 rfl ?_
          refine g_bipush dX2_ofList_138 (by decide) ?_
          refine g_icmp_ne (tgt := 152) dX2_ofList_140 (by decide) (fun c140 => ?_) (fun c140 => ?_)
          · refine g_iload_n dX2_ofList_152 rfl ?_
            refine g_bipush dX2_ofList_153 (by decide) ?_
            refine g_icmp_ne (tgt := 172) dX2_ofList_155 (by decide) (fun c155 => ?_) (fun c155 => ?_)
            · refine g_iload_n dX2_ofList_172 rfl ?_
              refine g_bipush dX2_ofList_173 (by decide) ?_
              refine g_icmp_ne (tgt := 191) dX2_ofList_175 (by decide) (fun c175 => ?_) (fun c175 => ?_)
              · exfalso; omega
              · refine g_iload dX2_ofList_178 rfl ?_
                refine g_iload dX2_ofList_180 rfl ?_
                refine g_iload_n dX2_ofList_182 rfl ?_
                refine g_isub dX2_ofList_183 rfl ⟨by omega, by omega⟩ ?_
                refine g_iconst dX2_ofList_184 ⟨by decide, by decide⟩ ?_
                refine g_max dX2_ofList_185 tb_2_121 (Nat.le_of_ble_eq_true rfl) ?_
                refine g_iadd dX2_ofList_188 rfl ⟨by split <;> omega, by split <;> omega⟩ ?_
                refine g_istore dX2_ofList_189 (by decide) rfl ?_
                refine cc2_l191 (by omega) F V.length s119 hf3 hst3 (op + 2) k _ _ _ _ _ ((sortR qlt L).reverse.take (L.length - num.toNat)) F ?_ hla2.take (fun a ha => hvr a (List.mem_of_mem_take ha)) (by omega) (by omega) ?_ ?_ _ _ _
                · rw [List.length_take, hlr]; omega
                · rw [List.length_take, hlr]
                  have hkn := hk (by omega)
                  split <;> omega
                · rw [hc, if_neg (by omega)]
                  unfold pkL
                  rw [if_neg (by omega), if_neg (by omega), if_neg (by omega)]
            · refine g_iload dX2_ofList_158 rfl ?_
              refine g_iload_n dX2_ofList_160 rfl ?_
              refine g_iload dX2_ofList_161 rfl ?_
              refine g_min dX2_ofList_163 tb_2_116 (Nat.le_of_ble_eq_true rfl) ?_
              refine g_iadd dX2_ofList_166 rfl ⟨by split <;> omega, by split <;> omega⟩ ?_
              refine g_istore dX2_ofList_167 (by decide) rfl ?_
              refine g_goto (tgt := 191) dX2_ofList_169 (by decide) ?_
              refine cc2_l191 (by omega) F V.length s119 hf3 hst3 (op + 2) k _ _ _ _ _ ((sortR qlt L).reverse.take num.toNat) F ?_ hla2.take (fun a ha => hvr a (List.mem_of_mem_take ha)) (by omega) (by omega) ?_ ?_ _ _ _
              · rw [List.length_take, hlr]; omega
              · rw [List.length_take, hlr]
                have hkn := hk (by omega)
                split <;> omega
              · rw [hc, if_neg (by omega)]
                unfold pkL
                rw [if_neg (by omega), if_neg (by omega), if_pos (by omega)]
          · refine g_iload dX2_ofList_143 rfl ?_
            refine g_iconst dX2_ofList_145 ⟨by decide, by decide⟩ ?_
            refine g_isub dX2_ofList_146 rfl ⟨by omega, by omega⟩ ?_
            refine g_istore dX2_ofList_147 (by decide) rfl ?_
            refine g_goto (tgt := 191) dX2_ofList_149 (by decide) ?_
            refine cc2_l191 (by omega) F V.length s119 hf3 hst3 (op + 2) k _ _ _ _ _ ((sortR qlt L).reverse.drop (L.length - 1)) (F + (L.length - 1)) ?_ hla2.drop (fun a ha => hvr a (List.mem_of_mem_drop ha)) (by omega) (by omega) ?_ ?_ _ _ _
            · rw [List.length_drop, hlr]; omega
            · rw [List.length_drop, hlr]; omega
            · rw [hc, if_neg (by omega)]
              unfold pkL
              rw [if_neg (by omega), if_pos (by omega)]
        · refine g_iload dX2_ofList_128 rfl ?_
          refine g_iconst dX2_ofList_130 ⟨by decide, by decide⟩ ?_
          refine g_iadd dX2_ofList_131 rfl ⟨by omega, by omega⟩ ?_
          refine g_istore dX2_ofList_132 (by decide) rfl ?_
          refine g_goto (tgt := 191) dX2_ofList_134 (by decide) ?_
          refine cc2_l191 (by omega) F V.length s119 hf3 hst3 (op + 2) k _ _ _ _ _ ((sortR qlt L).reverse.take 1) F ?_ hla2.take (fun a ha => hvr a (List.mem_of_mem_take ha)) (by omega) (by omega) ?_ ?_ _ _ _
          · rw [List.length_take, hlr]; omega
          · rw [List.length_take, hlr]; omega
          · rw [hc, if_neg (by omega)]
            unfold pkL
            rw [if_pos (by omega)]
    · have hL0 : L = [] := List.length_eq_zero_iff.mp (by omega)
      refine g_lconst0 dX2_ofList_106 ?_
      refine g_lreturn dX2_ofList_107 rfl ⟨_, rfl, ?_⟩
      refine ⟨?_, hst⟩
      have : comb op num (ceN V) = vO := by
        unfold comb
        have h1 : ¬ (ceN V).any (fun c => isX c.1) = true := fun h => by
          obtain ⟨v, v1, v2⟩ := (anyX V).mp h
          exact hX v v1 v2
        rw [if_neg h1, if_pos (Or.inl ((allO hX).mpr (by rw [hL, hL0])))]
      rw [this]
      rfl
