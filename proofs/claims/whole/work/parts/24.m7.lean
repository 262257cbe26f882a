/-! THE REFERENCE: lists -/
set_option maxHeartbeats 1000000 in
theorem cm_picks {D : Nat} (hD : 3 ≤ D) (σ : am_HS) (hf : σ.2.2 = mH) (x : Nat) (hx : x < 3200) (l : List (Nat × Vl)) (hl : Lk σ (hI σ 19 x) l) (hlen : l.length ≤ 10) (n : Int) (hn : n = ((numsN l).length : Int)) (hn1 : 1 ≤ n) (hop : hI σ 17 x = 4 ∨ hI σ 17 x = 5 ∨ hI σ 17 x = 7 ∨ hI σ 17 x = 8) (hnum : 0 ≤ hI σ 18 x ∧ hI σ 18 x ≤ 9999) : am_Do lm D mX7_picks σ [vR (some 0), vI (x : Int), vI n] (qV fun s => ∃ g z U W, s = uT (putA σ 39 g) z U W ∧ vt (pickV (hI σ 17 x) (hI σ 18 x) (nums (l.map (fun q => q.2)))) z U W) := by
  obtain ⟨d, rfl⟩ : ∃ d, D = d + 1 := ⟨D - 1, by omega⟩
  refine am_enter rfl rfl (Nat.le_of_ble_eq_true rfl) ?_
  have hlen2 := nums_len l
  generalize hpv : pickV (hI σ 17 x) (hI σ 18 x) (nums (l.map (fun q => q.2))) = F
  rw [← nums_map] at hpv
  have hall : ∀ a ∈ numsN l, a.1 < 3200 ∧ hI σ 36 a.1 = 1 ∧ hL σ 37 a.1 = a.2.1 ∧ hL σ 38 a.1 = a.2.2 ∧ vok (vN a.2.1 a.2.2) := by
    have key : ∀ (k : List (Nat × Vl)) (y : Int), Lk σ y k → ∀ a ∈ numsN k, a.1 < 3200 ∧ hI σ 36 a.1 = 1 ∧ hL σ 37 a.1 = a.2.1 ∧ hL σ 38 a.1 = a.2.2 ∧ vok (vN a.2.1 a.2.2) := by
      intro k
      induction k with
      | nil => intro y _ a ha; simp [numsN] at ha
      | cons q t ih =>
        intro y hk a ha
        obtain ⟨rfl, h1, h2, h3, hk⟩ := hk
        obtain ⟨i, v⟩ := q
        rcases v with _ | _ | v
        · exact ih _ hk a (by simpa [numsN] using ha)
        · exact ih _ hk a (by simpa [numsN] using ha)
        · rcases (show a = (i, v) ∨ a ∈ numsN t by simpa [numsN] using ha) with rfl | ha
          · exact ⟨h1, h2.1, h2.2.1, h2.2.2, h3⟩
          · exact ih _ hk a ha
    exact key l _ hl
  -- what is done with the sorted row
  have fin : ∀ (g : Nat → Int32) (o4 o5 o3 : Option am_V), SAr g (sortR nlt (numsN l)) → am_Go lm d 7 6 0 cX7_picks 131 [some (vR (some 0)), some (vI (x : Int)), some (vI n), o3, o4, o5] [] (putA σ 39 g) (qV fun s => ∃ g z U W, s = uT (putA σ 39 g) z U W ∧ vt F z U W) := by
    intro g o4 o5 o3 hg
    generalize hR : sortR nlt (numsN l) = R at hg
    have hRl : R.length = (numsN l).length := by rw [← hR]; exact sortR_len _ _
    have hRm : ∀ a ∈ R, a ∈ numsN l := fun a ha => sortR_mem (by rw [hR]; exact ha)
    have hRs : sortR qlt ((numsN l).map (fun a => a.2)) = R.map (fun a => a.2) := by rw [← hR]; exact (sortR_map (lt := nlt) (lt2 := qlt) (f := fun a => a.2) (fun _ _ => rfl) _).symm
    have hat : ∀ i : Nat, i < R.length → ∃ a, R.reverse[i]? = some a ∧ (g i).toInt = (a.1 : Int) ∧ a.1 < 3200 ∧ hL σ 37 a.1 = a.2.1 ∧ hL σ 38 a.1 = a.2.2 ∧ vok (vN a.2.1 a.2.2) := by
      intro i hi
      have hi2 : i < R.reverse.length := by simpa using hi
      refine ⟨R.reverse[i], List.getElem?_eq_getElem hi2, hg.at_rev (List.getElem?_eq_getElem hi2), ?_⟩
      have hm := hall _ (hRm _ (List.mem_reverse.mp (List.getElem_mem hi2)))
      exact ⟨hm.1, hm.2.2.1, hm.2.2.2.1, hm.2.2.2.2⟩
    have sums : ∀ (T : Nat), T ≤ R.length → sumL (((R.map (fun a => a.2)).reverse).take T) = F → ∀ (m i : Nat), i + m = T → ∀ (z U W : Int), vt (sumL (((R.map (fun a => a.2)).reverse).take i)) z U W → vok (sumL (((R.map (fun a => a.2)).reverse).take i)) → ∀ o3 : Option am_V, am_Go lm d 7 6 0 cX7_picks 237 [some (vR (some 0)), some (vI (x : Int)), some (vI n), o3, some (vI (T : Int)), some (vI (i : Int))] [] (uT (putA σ 39 g) z U W) (qV fun s => ∃ g z U W, s = uT (putA σ 39 g) z U W ∧ vt F z U W) := by
      intro T hT hF m
      induction m with
      | zero =>
        intro i hi z U W hv hok o3
        have hiT : i = T := by omega
        subst hiT
        refine g_iload dX7_picks_237 rfl ?_
        refine g_iload dX7_picks_239 rfl ?_
        refine g_icmp_ge (tgt := 286) dX7_picks_241 (by decide) (fun c241 => ?_) (fun c241 => ?_)
        · refine g_return dX7_picks_286 rfl ⟨rfl, ?_⟩
          exact ⟨g, z, U, W, rfl, hF ▸ hv⟩
        · exfalso; omega
      | succ m ih =>
        intro i hi z U W hv hok o3
        obtain ⟨a, ha, hga, ha1, hau, had, hav⟩ := hat i (by omega)
        obtain ⟨ra, rb⟩ := vokN hav
        have hz := vt_z hv
        have hsn : sumL (((R.map (fun a => a.2)).reverse).take (i + 1)) = addV (sumL (((R.map (fun a => a.2)).reverse).take i)) a.2.1 a.2.2 := by
          have h1 : ((R.map (fun a => a.2)).reverse)[i]? = some a.2 := by rw [← List.map_reverse, List.getElem?_map, ha]; rfl
          unfold sumL
          rw [List.take_add_one, h1, List.foldl_append]
          rfl
        refine g_iload dX7_picks_237 rfl ?_
        refine g_iload dX7_picks_239 rfl ?_
        refine g_icmp_ge (tgt := 286) dX7_picks_241 (by decide) (fun c241 => ?_) (fun c241 => ?_)
        · exfalso; omega
        · refine g_aload_n dX7_picks_244 rfl ?_
          refine g_getI dX7_picks_245 tf_7_252 rfl rfl ?_
          rw [hI_uT_s ⟨by omega, by omega⟩]
          refine g_iconst dX7_picks_248 ⟨by decide, by decide⟩ ?_
          refine g_icmp_ne (tgt := 286) dX7_picks_249 (by decide) (fun c249 => ?_) (fun c249 => ?_)
          · refine g_return dX7_picks_286 rfl ⟨rfl, ?_⟩
            have hX : sumL (((R.map (fun a => a.2)).reverse).take i) = vX := by
              rcases vt_n1 hv c249 with h | h
              · exfalso
                have : ∀ (k : List (Int × Int)) (acc : Vl), acc ≠ vO → k.foldl (fun acc q => addV acc q.1 q.2) acc ≠ vO := by
                  intro k
                  induction k with
                  | nil => intro acc h; exact h
                  | cons q t ih => intro acc h; exact ih _ (addV_nO h)
                exact this _ (vN 0 1) (by simp) h
              · exact h
            have hstay : ∀ (m i : Nat), i + m = T → sumL (((R.map (fun a => a.2)).reverse).take i) = vX → sumL (((R.map (fun a => a.2)).reverse).take T) = vX := by
              intro m i hi h
              have : ∀ (k : List (Int × Int)), k.foldl (fun acc q => addV acc q.1 q.2) vX = vX := by
                intro k
                induction k with
                | nil => rfl
                | cons q t ih => exact ih
              rw [show T = i + (T - i) by omega, List.take_add]
              unfold sumL at h ⊢
              rw [List.foldl_append, h, this]
            refine ⟨g, z, U, W, rfl, ?_⟩
            rw [← hF, hstay _ i hi hX]
            rw [hX] at hv
            exact hv
          · have e1 := vt_1 hv (by omega)
            rw [e1] at hok
            obtain ⟨rU, rW⟩ := vokN hok
            refine g_aload_n dX7_picks_252 rfl ?_
            refine g_aload_n dX7_picks_253 rfl ?_
            refine g_getA dX7_picks_254 tf_7_120 rfl rfl (mrf hf rfl) ?_
            refine g_aload_n dX7_picks_257 rfl ?_
            refine g_getA dX7_picks_258 tf_7_126 rfl rfl (mrf hf rfl) ?_
            refine g_iload dX7_picks_261 rfl ?_
            refine g_ialdN (i) dX7_picks_263 rfl (by omega) (by omega) ?_
            rw [hI_uT (by omega), hI_putA_s, hga]
            refine g_laldN (a.1) dX7_picks_264 rfl (by omega) (by omega) ?_
            rw [hL_uT (by omega), hL_putA, hau]
            refine g_aload_n dX7_picks_265 rfl ?_
            refine g_getA dX7_picks_266 tf_7_123 rfl rfl (mrf hf rfl) ?_
            refine g_aload_n dX7_picks_269 rfl ?_
            refine g_getA dX7_picks_270 tf_7_126 rfl rfl (mrf hf rfl) ?_
            refine g_iload dX7_picks_273 rfl ?_
            refine g_ialdN (i) dX7_picks_275 rfl (by omega) (by omega) ?_
            rw [hI_uT (by omega), hI_putA_s, hga]
            refine g_laldN (a.1) dX7_picks_276 rfl (by omega) (by omega) ?_
            rw [hL_uT (by omega), hL_putA, had]
            refine g_callvV dX7_picks_277 tm_7_357 rfl ⟨rfl, rfl⟩ rfl (Nat.le_of_ble_eq_true rfl) (cm_plus (by omega) _ U W _ _ (hL_uT_u ⟨by omega, by omega⟩) (hL_uT_w ⟨by omega, by omega⟩) rU rW ra rb) (fun s277 h277 => ?_)
            obtain ⟨z2, U2, W2, rfl, hvt⟩ := h277
            rw [uT_uT]
            refine g_iinc dX7_picks_280 (by decide) rfl ⟨by omega, by omega⟩ rfl rfl ?_
            refine g_goto (tgt := 237) dX7_picks_283 (by decide) ?_
            refine ih (i + 1) (by omega) _ _ _ ?_ ?_ _
            · rw [hsn, e1]; exact hvt
            · rw [hsn, e1]; exact addV_ok hok rb.1
    have hmx : ∀ a, R.reverse[0]? = some a → hI σ 17 x = 4 → vN a.2.1 a.2.2 = F := by
      intro a ha h4
      rw [← hpv]
      unfold pickV
      rw [if_pos h4, hRs, ← List.map_reverse, List.head?_map, List.head?_eq_getElem?, ha]
      rfl
    have hmn : ∀ a, R.reverse[R.length - 1]? = some a → hI σ 17 x = 5 → vN a.2.1 a.2.2 = F := by
      intro a ha h4
      rw [← hpv]
      unfold pickV
      rw [if_neg (by omega), if_pos h4, hRs, List.head?_map, List.head?_eq_getElem?]
      rw [List.getElem?_reverse (by omega), show R.length - 1 - (R.length - 1) = 0 by omega] at ha
      rw [ha]
      rfl
    obtain ⟨a0, ha0, hga0, ha01, hau0, had0, hav0⟩ := hat 0 (by omega)
    obtain ⟨a1, ha1, hga1, ha11, hau1, had1, hav1⟩ := hat (R.length - 1) (by omega)
    obtain ⟨ra0, rb0⟩ := vokN hav0
    obtain ⟨ra1, rb1⟩ := vokN hav1
    by_cases h4 : hI σ 17 x = 4
    · have hu0 := ha01
      refine g_aload_n dX7_picks_131 rfl ?_
      refine g_getA dX7_picks_132 tf_7_59 rfl rfl (mrf hf rfl) ?_
      refine g_iload_n dX7_picks_135 rfl ?_
      refine g_ialdN (x) dX7_picks_136 rfl (by omega) (by omega) ?_
      rw [hI_putA (by omega)]
      refine g_iconst dX7_picks_137 ⟨by decide, by decide⟩ ?_
      refine g_icmp_eq (tgt := 151) dX7_picks_138 (by decide) (fun c138 => ?_) (fun c138 => ?_)
      · refine g_aload_n dX7_picks_151 rfl ?_
        refine g_getA dX7_picks_152 tf_7_126 rfl rfl (mrf hf rfl) ?_
        refine g_aload_n dX7_picks_155 rfl ?_
        refine g_getA dX7_picks_156 tf_7_59 rfl rfl (mrf hf rfl) ?_
        refine g_iload_n dX7_picks_159 rfl ?_
        refine g_ialdN (x) dX7_picks_160 rfl (by omega) (by omega) ?_
        rw [hI_putA (by omega)]
        refine g_iconst dX7_picks_161 ⟨by decide, by decide⟩ ?_
        refine g_icmp_ne (tgt := 169) dX7_picks_162 (by decide) (fun c162 => ?_) (fun c162 => ?_)
        · exfalso; omega
        · refine g_iconst dX7_picks_165 ⟨by decide, by decide⟩ ?_
          refine g_goto (tgt := 172) dX7_picks_166 (by decide) ?_
          refine g_ialdN (0) dX7_picks_172 rfl (by omega) (by omega) ?_
          rw [hI_putA_s, hga0]
          refine g_istore dX7_picks_173 (by decide) rfl ?_
          refine g_aload_n dX7_picks_175 rfl ?_
          refine g_aload_n dX7_picks_176 rfl ?_
          refine g_getA dX7_picks_177 tf_7_120 rfl rfl (mrf hf rfl) ?_
          refine g_iload dX7_picks_180 rfl ?_
          refine g_laldN (a0.1) dX7_picks_182 rfl (by omega) (by omega) ?_
          rw [hL_putA, hau0]
          refine g_aload_n dX7_picks_183 rfl ?_
          refine g_getA dX7_picks_184 tf_7_123 rfl rfl (mrf hf rfl) ?_
          refine g_iload dX7_picks_187 rfl ?_
          refine g_laldN (a0.1) dX7_picks_189 rfl (by omega) (by omega) ?_
          rw [hL_putA, had0]
          refine g_callvV dX7_picks_190 tm_7_320 rfl ⟨rfl, rfl⟩ rfl (Nat.le_of_ble_eq_true rfl) (cm_tells (by omega) _ _ _ ⟨by omega, by omega⟩ ⟨by omega, by omega⟩) (fun s190 h190 => ?_)
          obtain ⟨tz, tU, tW, rfl, hvt⟩ := h190
          refine g_return dX7_picks_193 rfl ⟨rfl, ?_⟩
          refine ⟨g, tz, tU, tW, rfl, ?_⟩
          rw [← hmx a0 ha0 (by omega)]
          rw [nrm_same hav0] at hvt
          exact hvt
      · exfalso; omega
    by_cases h5 : hI σ 17 x = 5
    · have hu1 := ha11
      refine g_aload_n dX7_picks_131 rfl ?_
      refine g_getA dX7_picks_132 tf_7_59 rfl rfl (mrf hf rfl) ?_
      refine g_iload_n dX7_picks_135 rfl ?_
      refine g_ialdN (x) dX7_picks_136 rfl (by omega) (by omega) ?_
      rw [hI_putA (by omega)]
      refine g_iconst dX7_picks_137 ⟨by decide, by decide⟩ ?_
      refine g_icmp_eq (tgt := 151) dX7_picks_138 (by decide) (fun c138 => ?_) (fun c138 => ?_)
      · exfalso; omega
      · refine g_aload_n dX7_picks_141 rfl ?_
        refine g_getA dX7_picks_142 tf_7_59 rfl rfl (mrf hf rfl) ?_
        refine g_iload_n dX7_picks_145 rfl ?_
        refine g_ialdN (x) dX7_picks_146 rfl (by omega) (by omega) ?_
        rw [hI_putA (by omega)]
        refine g_iconst dX7_picks_147 ⟨by decide, by decide⟩ ?_
        refine g_icmp_ne (tgt := 194) dX7_picks_148 (by decide) (fun c148 => ?_) (fun c148 => ?_)
        · exfalso; omega
        · refine g_aload_n dX7_picks_151 rfl ?_
          refine g_getA dX7_picks_152 tf_7_126 rfl rfl (mrf hf rfl) ?_
          refine g_aload_n dX7_picks_155 rfl ?_
          refine g_getA dX7_picks_156 tf_7_59 rfl rfl (mrf hf rfl) ?_
          refine g_iload_n dX7_picks_159 rfl ?_
          refine g_ialdN (x) dX7_picks_160 rfl (by omega) (by omega) ?_
          rw [hI_putA (by omega)]
          refine g_iconst dX7_picks_161 ⟨by decide, by decide⟩ ?_
          refine g_icmp_ne (tgt := 169) dX7_picks_162 (by decide) (fun c162 => ?_) (fun c162 => ?_)
          · refine g_iload_n dX7_picks_169 rfl ?_
            refine g_iconst dX7_picks_170 ⟨by decide, by decide⟩ ?_
            refine g_isub dX7_picks_171 rfl ⟨by omega, by omega⟩ ?_
            refine g_ialdN (R.length - 1) dX7_picks_172 rfl (by omega) (by omega) ?_
            rw [hI_putA_s, hga1]
            refine g_istore dX7_picks_173 (by decide) rfl ?_
            refine g_aload_n dX7_picks_175 rfl ?_
            refine g_aload_n dX7_picks_176 rfl ?_
            refine g_getA dX7_picks_177 tf_7_120 rfl rfl (mrf hf rfl) ?_
            refine g_iload dX7_picks_180 rfl ?_
            refine g_laldN (a1.1) dX7_picks_182 rfl (by omega) (by omega) ?_
            rw [hL_putA, hau1]
            refine g_aload_n dX7_picks_183 rfl ?_
            refine g_getA dX7_picks_184 tf_7_123 rfl rfl (mrf hf rfl) ?_
            refine g_iload dX7_picks_187 rfl ?_
            refine g_laldN (a1.1) dX7_picks_189 rfl (by omega) (by omega) ?_
            rw [hL_putA, had1]
            refine g_callvV dX7_picks_190 tm_7_320 rfl ⟨rfl, rfl⟩ rfl (Nat.le_of_ble_eq_true rfl) (cm_tells (by omega) _ _ _ ⟨by omega, by omega⟩ ⟨by omega, by omega⟩) (fun s190 h190 => ?_)
            obtain ⟨tz, tU, tW, rfl, hvt⟩ := h190
            refine g_return dX7_picks_193 rfl ⟨rfl, ?_⟩
            refine ⟨g, tz, tU, tW, rfl, ?_⟩
            rw [← hmn a1 ha1 (by omega)]
            rw [nrm_same hav1] at hvt
            exact hvt
          · exfalso; omega
    have hmin : hI σ 17 x = 7 → ∀ (tz tU tW : Int), vt (vN 0 1) tz tU tW → ∀ o3 : Option am_V, am_Go lm d 7 6 0 cX7_picks 237 [some (vR (some 0)), some (vI (x : Int)), some (vI n), o3, some (vI (if hI σ 18 x < n then hI σ 18 x else n)), some (vI 0)] [] (uT (putA σ 39 g) tz tU tW) (qV fun s => ∃ g z U W, s = uT (putA σ 39 g) z U W ∧ vt F z U W) := by
      intro h7 tz tU tW hvt o3
      have hT : (((R.map (fun a => a.2)).reverse).take (hI σ 18 x).toNat) = (((R.map (fun a => a.2)).reverse).take (min (hI σ 18 x).toNat R.length)) := by
        rcases Nat.le_total (hI σ 18 x).toNat R.length with h | h
        · rw [Nat.min_eq_left h]
        · rw [Nat.min_eq_right h, List.take_of_length_le (by simpa using h), List.take_of_length_le (by simp)]
      have := sums (min (hI σ 18 x).toNat R.length) (Nat.min_le_right _ _) (by rw [← hT, ← hpv, ← hRs]; unfold pickV; rw [if_neg h4, if_neg h5, if_pos h7]) _ 0 (Nat.zero_add _) tz tU tW hvt ⟨by decide, by decide, by decide, by decide, by decide⟩ o3
      rw [show ((min (hI σ 18 x).toNat R.length : Nat) : Int) = (if hI σ 18 x < n then hI σ 18 x else n) by split <;> omega] at this
      exact this
    have hsub : ¬ hI σ 17 x = 7 → ∀ (tz tU tW : Int), vt (vN 0 1) tz tU tW → ∀ o3 : Option am_V, am_Go lm d 7 6 0 cX7_picks 237 [some (vR (some 0)), some (vI (x : Int)), some (vI n), o3, some (vI (n - hI σ 18 x)), some (vI 0)] [] (uT (putA σ 39 g) tz tU tW) (qV fun s => ∃ g z U W, s = uT (putA σ 39 g) z U W ∧ vt F z U W) := by
      intro h7 tz tU tW hvt o3
      rcases Int.le_total (hI σ 18 x) n with hle | hle
      · have hTl : R.length - (hI σ 18 x).toNat ≤ R.length := Nat.sub_le _ _
        have := sums (R.length - (hI σ 18 x).toNat) hTl (by rw [← hpv, ← hRs]; unfold pickV; rw [if_neg h4, if_neg h5, if_neg h7, List.length_map, ← hRl]) _ 0 (Nat.zero_add _) tz tU tW hvt ⟨by decide, by decide, by decide, by decide, by decide⟩ o3
        rw [show ((R.length - (hI σ 18 x).toNat : Nat) : Int) = n - hI σ 18 x by omega] at this
        exact this
      · refine g_iload dX7_picks_237 rfl ?_
        refine g_iload dX7_picks_239 rfl ?_
        refine g_icmp_ge (tgt := 286) dX7_picks_241 (by decide) (fun c241 => ?_) (fun c241 => ?_)
        · refine g_return dX7_picks_286 rfl ⟨rfl, ?_⟩
          refine ⟨g, tz, tU, tW, rfl, ?_⟩
          have : vN 0 1 = F := by
            rw [← hpv]
            unfold pickV
            rw [if_neg h4, if_neg h5, if_neg h7, hRs, List.length_map, ← hRl, show R.length - (hI σ 18 x).toNat = 0 by omega]
            rfl
          rw [← this]
          exact hvt
        · exfalso; omega
    have hop2 : hI σ 17 x = 7 ∨ hI σ 17 x = 8 := by omega
    refine g_aload_n dX7_picks_131 rfl ?_
    refine g_getA dX7_picks_132 tf_7_59 rfl rfl (mrf hf rfl) ?_
    refine g_iload_n dX7_picks_135 rfl ?_
    refine g_ialdN (x) dX7_picks_136 rfl (by omega) (by omega) ?_
    rw [hI_putA (by omega)]
    refine g_iconst dX7_picks_137 ⟨by decide, by decide⟩ ?_
    refine g_icmp_eq (tgt := 151) dX7_picks_138 (by decide) (fun c138 => ?_) (fun c138 => ?_)
    · exfalso; omega
    · refine g_aload_n dX7_picks_141 rfl ?_
      refine g_getA dX7_picks_142 tf_7_59 rfl rfl (mrf hf rfl) ?_
      refine g_iload_n dX7_picks_145 rfl ?_
      refine g_ialdN (x) dX7_picks_146 rfl (by omega) (by omega) ?_
      rw [hI_putA (by omega)]
      refine g_iconst dX7_picks_147 ⟨by decide, by decide⟩ ?_
      refine g_icmp_ne (tgt := 194) dX7_picks_148 (by decide) (fun c148 => ?_) (fun c148 => ?_)
      · refine g_aload_n dX7_picks_194 rfl ?_
        refine g_getA dX7_picks_195 tf_7_59 rfl rfl (mrf hf rfl) ?_
        refine g_iload_n dX7_picks_198 rfl ?_
        refine g_ialdN (x) dX7_picks_199 rfl (by omega) (by omega) ?_
        rw [hI_putA (by omega)]
        refine g_bipush dX7_picks_200 (by decide) ?_
        refine g_icmp_ne (tgt := 218) dX7_picks_202 (by decide) (fun c202 => ?_) (fun c202 => ?_)
        · refine g_iload_n dX7_picks_218 rfl ?_
          refine g_aload_n dX7_picks_219 rfl ?_
          refine g_getA dX7_picks_220 tf_7_62 rfl rfl (mrf hf rfl) ?_
          refine g_iload_n dX7_picks_223 rfl ?_
          refine g_ialdN (x) dX7_picks_224 rfl (by omega) (by omega) ?_
          rw [hI_putA (by omega)]
          refine g_isub dX7_picks_225 rfl ⟨by omega, by omega⟩ ?_
          refine g_istore dX7_picks_226 (by decide) rfl ?_
          refine g_aload_n dX7_picks_228 rfl ?_
          refine g_lconst0 dX7_picks_229 ?_
          refine g_lconst1 dX7_picks_230 ?_
          refine g_callvV dX7_picks_231 tm_7_320 rfl ⟨rfl, rfl⟩ rfl (Nat.le_of_ble_eq_true rfl) (cm_tells (by omega) _ _ _ ⟨by omega, by omega⟩ ⟨by omega, by omega⟩) (fun s231 h231 => ?_)
          obtain ⟨tz, tU, tW, rfl, hvt⟩ := h231
          rw [show nrm 0 1 = vN 0 1 from nrm_1 ⟨by omega, by omega⟩] at hvt
          refine g_iconst dX7_picks_234 ⟨by decide, by decide⟩ ?_
          refine g_istore dX7_picks_235 (by decide) rfl ?_
          first
            | exact hmin (by omega) _ _ _ hvt _
            | exact hsub (by omega) _ _ _ hvt _
        · refine g_iload_n dX7_picks_205 rfl ?_
          refine g_aload_n dX7_picks_206 rfl ?_
          refine g_getA dX7_picks_207 tf_7_62 rfl rfl (mrf hf rfl) ?_
          refine g_iload_n dX7_picks_210 rfl ?_
          refine g_ialdN (x) dX7_picks_211 rfl (by omega) (by omega) ?_
          rw [hI_putA (by omega)]
          refine g_min dX7_picks_212 tb_7_360 (Nat.le_of_ble_eq_true rfl) ?_
          refine g_goto (tgt := 226) dX7_picks_215 (by decide) ?_
          refine g_istore dX7_picks_226 (by decide) rfl ?_
          refine g_aload_n dX7_picks_228 rfl ?_
          refine g_lconst0 dX7_picks_229 ?_
          refine g_lconst1 dX7_picks_230 ?_
          refine g_callvV dX7_picks_231 tm_7_320 rfl ⟨rfl, rfl⟩ rfl (Nat.le_of_ble_eq_true rfl) (cm_tells (by omega) _ _ _ ⟨by omega, by omega⟩ ⟨by omega, by omega⟩) (fun s231 h231 => ?_)
          obtain ⟨tz, tU, tW, rfl, hvt⟩ := h231
          rw [show nrm 0 1 = vN 0 1 from nrm_1 ⟨by omega, by omega⟩] at hvt
          refine g_iconst dX7_picks_234 ⟨by decide, by decide⟩ ?_
          refine g_istore dX7_picks_235 (by decide) rfl ?_
          first
            | exact hmin (by omega) _ _ _ hvt _
            | exact hsub (by omega) _ _ _ hvt _
      · exfalso; omega
  have inner : ∀ (yq : NQ) (R : List NQ), yq ∈ numsN l → (∀ a ∈ R, a ∈ numsN l) → R.length ≤ 9 → (∀ (g' : Nat → Int32) (o5 : Option am_V), SAr g' (insR nlt yq R) → am_Go lm d 7 6 0 cX7_picks 116 [some (vR (some 0)), some (vI (x : Int)), some (vI n), some (vI (R.length : Int)), some (vI (yq.1 : Int)), o5] [] (putA σ 39 g') (qV fun s => ∃ g z U W, s = uT (putA σ 39 g) z U W ∧ vt F z U W)) → ∀ (S P : List NQ) (g : Nat → Int32), SMid g P S R.length → R = P ++ S → (∀ a ∈ P, nlt a yq = true) → am_Go lm d 7 6 0 cX7_picks 32 [some (vR (some 0)), some (vI (x : Int)), some (vI n), some (vI (R.length : Int)), some (vI (yq.1 : Int)), some (vI (S.length : Int))] [] (putA σ 39 g) (qV fun s => ∃ g z U W, s = uT (putA σ 39 g) z U W ∧ vt F z U W) := by
    intro yq R hy hRm hRl hc S
    obtain ⟨hy1, -, hyu, hyd, hyv⟩ := hall _ hy
    obtain ⟨ry, ry2⟩ := vokN hyv
    induction S with
    | nil =>
      intro P g hM hR hP
      refine g_iload dX7_picks_32 rfl ?_
      refine g_if_le (tgt := 107) dX7_picks_34 (by decide) (fun c34 => ?_) (fun c34 => ?_)
      · refine g_aload_n dX7_picks_107 rfl ?_
        refine g_getA dX7_picks_108 tf_7_126 rfl rfl (mrf hf rfl) ?_
        refine g_iload dX7_picks_111 rfl ?_
        refine g_iload dX7_picks_113 rfl ?_
        refine g_iastN (([] : List NQ).length) dX7_picks_115 rfl (by omega) (by omega) ?_
        rw [uI_putA]
        exact hc _ _ (by rw [hR, insR_split P _ hP (by first | (intro a t h; cases h; done) | (intro b t h; cases h; unfold nlt qlt; exact decide_eq_false (by omega)))]; exact hM.fin hy1)
      · exact absurd (by simp) c34
    | cons a S ih =>
      intro P g hM hR hP
      have hRl2 : P.length + (S.length + 1) ≤ 9 := by rw [hR] at hRl; simpa using hRl
      have ham : a ∈ numsN l := hRm a (by rw [hR]; simp)
      obtain ⟨ha1, -, hau, had, hav⟩ := hall _ ham
      obtain ⟨ra, rb⟩ := vokN hav
      have hga : (g S.length).toInt = (a.1 : Int) := hM.2.1 0 a rfl
      have q1 := mul_c ry (y := a.2.2) ⟨by omega, rb.2⟩
      have q2 := mul_c ra (y := yq.2.2) ⟨by omega, ry2.2⟩
      have hlen1 : ((a :: S).length : Int) = (S.length : Int) + 1 := by simp
      rw [hlen1]
      refine g_iload dX7_picks_32 rfl ?_
      refine g_if_le (tgt := 107) dX7_picks_34 (by decide) (fun c34 => ?_) (fun c34 => ?_)
      · exfalso; omega
      · refine g_aload_n dX7_picks_37 rfl ?_
        refine g_getA dX7_picks_38 tf_7_120 rfl rfl (mrf hf rfl) ?_
        refine g_iload dX7_picks_41 rfl ?_
        refine g_laldN (yq.1) dX7_picks_43 rfl (by omega) (by omega) ?_
        rw [hL_putA, hyu]
        refine g_aload_n dX7_picks_44 rfl ?_
        refine g_getA dX7_picks_45 tf_7_123 rfl rfl (mrf hf rfl) ?_
        refine g_aload_n dX7_picks_48 rfl ?_
        refine g_getA dX7_picks_49 tf_7_126 rfl rfl (mrf hf rfl) ?_
        refine g_iload dX7_picks_52 rfl ?_
        refine g_iconst dX7_picks_54 ⟨by decide, by decide⟩ ?_
        refine g_isub dX7_picks_55 rfl ⟨by omega, by omega⟩ ?_
        refine g_ialdN (S.length) dX7_picks_56 rfl (by omega) (by omega) ?_
        rw [hI_putA_s, hga]
        refine g_laldN (a.1) dX7_picks_57 rfl (by omega) (by omega) ?_
        rw [hL_putA, had]
        refine g_lmul dX7_picks_58 rfl ⟨by omega, by omega⟩ ?_
        refine g_aload_n dX7_picks_59 rfl ?_
        refine g_getA dX7_picks_60 tf_7_120 rfl rfl (mrf hf rfl) ?_
        refine g_aload_n dX7_picks_63 rfl ?_
        refine g_getA dX7_picks_64 tf_7_126 rfl rfl (mrf hf rfl) ?_
        refine g_iload dX7_picks_67 rfl ?_
        refine g_iconst dX7_picks_69 ⟨by decide, by decide⟩ ?_
        refine g_isub dX7_picks_70 rfl ⟨by omega, by omega⟩ ?_
        refine g_ialdN (S.length) dX7_picks_71 rfl (by omega) (by omega) ?_
        rw [hI_putA_s, hga]
        refine g_laldN (a.1) dX7_picks_72 rfl (by omega) (by omega) ?_
        rw [hL_putA, hau]
        refine g_aload_n dX7_picks_73 rfl ?_
        refine g_getA dX7_picks_74 tf_7_123 rfl rfl (mrf hf rfl) ?_
        refine g_iload dX7_picks_77 rfl ?_
        refine g_laldN (yq.1) dX7_picks_79 rfl (by omega) (by omega) ?_
        rw [hL_putA, hyd]
        refine g_lmul dX7_picks_80 rfl ⟨by omega, by omega⟩ ?_
        refine g_lc_le (tgt := 107) dX7_picks_81 dX7_picks_82 (by decide) (fun c82 => ?_) (fun c82 => ?_)
        · refine g_aload_n dX7_picks_107 rfl ?_
          refine g_getA dX7_picks_108 tf_7_126 rfl rfl (mrf hf rfl) ?_
          refine g_iload dX7_picks_111 rfl ?_
          refine g_iload dX7_picks_113 rfl ?_
          refine g_iastN ((a :: S).length) dX7_picks_115 rfl (by omega) (by omega) ?_
          rw [uI_putA]
          exact hc _ _ (by rw [hR, insR_split P _ hP (by first | (intro a t h; cases h; done) | (intro b t h; cases h; unfold nlt qlt; exact decide_eq_false (by omega)))]; exact hM.fin hy1)
        · refine g_aload_n dX7_picks_85 rfl ?_
          refine g_getA dX7_picks_86 tf_7_126 rfl rfl (mrf hf rfl) ?_
          refine g_iload dX7_picks_89 rfl ?_
          refine g_aload_n dX7_picks_91 rfl ?_
          refine g_getA dX7_picks_92 tf_7_126 rfl rfl (mrf hf rfl) ?_
          refine g_iload dX7_picks_95 rfl ?_
          refine g_iconst dX7_picks_97 ⟨by decide, by decide⟩ ?_
          refine g_isub dX7_picks_98 rfl ⟨by omega, by omega⟩ ?_
          refine g_ialdN (S.length) dX7_picks_99 rfl (by omega) (by omega) ?_
          rw [hI_putA_s, hga]
          refine g_iastN (S.length + 1) dX7_picks_100 rfl (by omega) (by omega) ?_
          rw [uI_putA]
          refine g_iinc dX7_picks_101 (by decide) rfl ⟨by omega, by omega⟩ (by omega : (S.length : Int) + 1 + -1 = (S.length : Int)) rfl ?_
          refine g_goto (tgt := 32) dX7_picks_104 (by decide) ?_
          refine ih (P ++ [a]) _ (hM.shift ha1) (by rw [hR]; simp) ?_
          intro b hb
          rcases List.mem_append.mp hb with h | h
          · exact hP b h
          · simp at h
            subst h
            unfold nlt qlt
            exact decide_eq_true (by omega)
  have outer : ∀ (rem : List (Nat × Vl)) (done : List NQ) (y : Int) (g : Nat → Int32) (o5 : Option am_V), Lk σ y rem → numsN l = done ++ numsN rem → done.length + rem.length ≤ 10 → SAr g (sortR nlt done) → am_Go lm d 7 6 0 cX7_picks 10 [some (vR (some 0)), some (vI (x : Int)), some (vI n), some (vI (done.length : Int)), some (vI y), o5] [] (putA σ 39 g) (qV fun s => ∃ g z U W, s = uT (putA σ 39 g) z U W ∧ vt F z U W) := by
    intro rem
    induction rem with
    | nil =>
      intro done y g o5 hk hN hlen hg
      have hy : y < 0 := hk
      have hN : numsN l = done := by rw [hN]; simp [numsN]
      refine g_iload dX7_picks_10 rfl ?_
      refine g_if_lt (tgt := 131) dX7_picks_12 (by decide) (fun c12 => ?_) (fun c12 => ?_)
      · exact fin g _ _ _ (by rw [hN]; exact hg)
      · exfalso; omega
    | cons q rem ih =>
      intro done y g o5 hk hN hlen hg
      obtain ⟨rfl, ha, hq, hqok, hk⟩ := hk
      simp only [List.length_cons] at hlen
      refine g_iload dX7_picks_10 rfl ?_
      refine g_if_lt (tgt := 131) dX7_picks_12 (by decide) (fun c12 => ?_) (fun c12 => ?_)
      · exfalso; omega
      · refine g_aload_n dX7_picks_15 rfl ?_
        refine g_getA dX7_picks_16 tf_7_117 rfl rfl (mrf hf rfl) ?_
        refine g_iload dX7_picks_19 rfl ?_
        refine g_ialdN (q.1) dX7_picks_21 rfl (by omega) (by omega) ?_
        rw [hI_putA (by omega)]
        refine g_iconst dX7_picks_22 ⟨by decide, by decide⟩ ?_
        refine g_icmp_eq (tgt := 29) dX7_picks_23 (by decide) (fun c23 => ?_) (fun c23 => ?_)
        · have e2 := vt_1 hq c23
          have hyq : numsN (q :: rem) = (q.1, (hL σ 37 q.1, hL σ 38 q.1)) :: numsN rem := by
            unfold numsN
            rw [List.filterMap_cons, e2]
          rw [hyq] at hN
          have hcont : ∀ (g' : Nat → Int32) (o5 : Option am_V), SAr g' (insR nlt (q.1, (hL σ 37 q.1, hL σ 38 q.1)) (sortR nlt done)) → am_Go lm d 7 6 0 cX7_picks 116 [some (vR (some 0)), some (vI (x : Int)), some (vI n), some (vI ((sortR nlt done).length : Int)), some (vI (q.1 : Int)), o5] [] (putA σ 39 g') (qV fun s => ∃ g z U W, s = uT (putA σ 39 g) z U W ∧ vt F z U W) := by
            intro g' o5 hg'
            refine g_iinc dX7_picks_116 (by decide) rfl (by rw [sortR_len]; exact ⟨by omega, by omega⟩) (by rw [sortR_len]; simp : (((sortR nlt done).length : Nat) : Int) + 1 = ((done ++ [(q.1, (hL σ 37 q.1, hL σ 38 q.1))]).length : Int)) rfl ?_
            refine g_aload_n dX7_picks_119 rfl ?_
            refine g_getA dX7_picks_120 tf_7_68 rfl rfl (mrf hf rfl) ?_
            refine g_iload dX7_picks_123 rfl ?_
            refine g_ialdN (q.1) dX7_picks_125 rfl (by omega) (by omega) ?_
            rw [hI_putA (by omega)]
            refine g_istore dX7_picks_126 (by decide) rfl ?_
            refine g_goto (tgt := 10) dX7_picks_128 (by decide) ?_
            exact ih (done ++ [(q.1, (hL σ 37 q.1, hL σ 38 q.1))]) _ _ _ hk (by rw [hN]; simp) (by simp; omega) (by rw [sortR_snoc]; exact hg')
          have hin := inner (q.1, (hL σ 37 q.1, hL σ 38 q.1)) (sortR nlt done) (by rw [hN]; simp) (fun a ha => by rw [hN]; exact List.mem_append_left _ (sortR_mem ha)) (by rw [sortR_len]; omega) hcont (sortR nlt done) [] g (SMid.start hg) rfl (fun a ha => by cases ha)
          rw [sortR_len] at hin
          refine g_iload_n dX7_picks_29 rfl ?_
          refine g_istore dX7_picks_30 (by decide) rfl ?_
          exact hin
        · have hyq : numsN (q :: rem) = numsN rem := by
            unfold numsN
            rw [List.filterMap_cons]
            rcases vt_n1 hq c23 with h | h <;> rw [h]
          rw [hyq] at hN
          refine g_goto (tgt := 119) dX7_picks_26 (by decide) ?_
          refine g_aload_n dX7_picks_119 rfl ?_
          refine g_getA dX7_picks_120 tf_7_68 rfl rfl (mrf hf rfl) ?_
          refine g_iload dX7_picks_123 rfl ?_
          refine g_ialdN (q.1) dX7_picks_125 rfl (by omega) (by omega) ?_
          rw [hI_putA (by omega)]
          refine g_istore dX7_picks_126 (by decide) rfl ?_
          refine g_goto (tgt := 10) dX7_picks_128 (by decide) ?_
          exact ih done _ _ _ hk hN (by omega) hg
  refine g_iconst dX7_picks_0 ⟨by decide, by decide⟩ ?_
  refine g_istore_n dX7_picks_1 (by decide) rfl ?_
  refine g_aload_n dX7_picks_2 rfl ?_
  refine g_getA dX7_picks_3 tf_7_65 rfl rfl (mrf hf rfl) ?_
  refine g_iload_n dX7_picks_6 rfl ?_
  refine g_ialdN (x) dX7_picks_7 rfl (by omega) (by omega) ?_
  refine g_istore dX7_picks_8 (by decide) rfl ?_
  have := outer l [] _ (σ.1 39) none hl rfl (by simpa using hlen) (fun j a h => by simp [sortR] at h)
  rw [putA_id] at this
  exact this

