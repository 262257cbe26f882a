/-! THE REFERENCE: what hangs on what -/
set_option maxHeartbeats 1000000 in
theorem cm_findHangs {D : Nat} (hD : 2 ≤ D) (σ : am_HS) (hf : σ.2.2 = mH) (hb : rgM σ) (set n W : Nat) (fr : Nat → Nat) (hset : set < 2) (hn : hI σ 23 set = (n : Int)) (hn12 : n ≤ 12) (hfr : ∀ r, r ≤ n → hI σ 26 (13 * set + r) = (fr r : Int) ∧ fr r ≤ 1600) (hW : hI σ 0 2 = (W : Int)) (hW10 : W ≤ 10) (hnd : ∀ r k, r < n → fr r ≤ k → k < fr (r + 1) → hI σ 17 (1600 * set + k) = 1 → (0 ≤ hI σ 18 (1600 * set + k) ∧ hI σ 18 (1600 * set + k) < 12) ∨ (100 ≤ hI σ 18 (1600 * set + k) ∧ hI σ 18 (1600 * set + k) < 110)) : am_Do lm D mX7_findHangs σ [vR (some 0), vI (set : Int)] (qV fun s => ∃ G : Nat → Nat, s = hs28 σ G ∧ (∀ k, G k < 4194304) ∧ ∀ k, k < 22 → ∀ b, hasB (G k) b ↔ rch (EM σ set n W fr) 22 k b) := by
  obtain ⟨d, rfl⟩ : ∃ d, D = d + 1 := ⟨D - 1, by omega⟩
  refine am_enter rfl rfl (Nat.le_of_ble_eq_true rfl) ?_
  -- the closure
  have wout : ∀ (M m : Nat), m + M = 22 → ∀ (G : Nat → Nat) (o3 o4 : Option am_V), (∀ k, G k < 4194304) → (∀ k, k < 22 → ∀ b, hasB (G k) b ↔ rch (EM σ set n W fr) m k b) → am_Go lm d 7 5 0 cX7_findHangs 193 [some (vR (some 0)), some (vI (set : Int)), some (vI (m : Int)), o3, o4] [] (hs28 σ G) (qV fun s => ∃ G : Nat → Nat, s = hs28 σ G ∧ (∀ k, G k < 4194304) ∧ ∀ k, k < 22 → ∀ b, hasB (G k) b ↔ rch (EM σ set n W fr) 22 k b) := by
    intro M
    induction M with
    | zero =>
      intro m hm G o3 o4 hG hB
      have h22 : m = 22 := by omega
      subst h22
      refine g_iload_n dX7_findHangs_193 rfl ?_
      refine g_bipush dX7_findHangs_194 (by decide) ?_
      refine g_icmp_ge (tgt := 248) dX7_findHangs_196 (by decide) (fun c196 => ?_) (fun c196 => ?_)
      · refine g_return dX7_findHangs_248 rfl ⟨rfl, ?_⟩
        exact ⟨G, rfl, hG, hB⟩
      · exfalso; omega
    | succ M ih =>
      intro m hm G o3 o4 hG hB
      have inner : ∀ (N k : Nat), k + N = 22 → ∀ (G : Nat → Nat) (o4 : Option am_V), (∀ k, G k < 4194304) → (∀ j, j < k → ∀ b, hasB (G j) b ↔ rch (EM σ set n W fr) (m + 1) j b) → (∀ j, k ≤ j → j < 22 → ∀ b, hasB (G j) b ↔ rch (EM σ set n W fr) m j b) → am_Go lm d 7 5 0 cX7_findHangs 201 [some (vR (some 0)), some (vI (set : Int)), some (vI (m : Int)), some (vI (k : Int)), o4] [] (hs28 σ G) (qV fun s => ∃ G : Nat → Nat, s = hs28 σ G ∧ (∀ k, G k < 4194304) ∧ ∀ k, k < 22 → ∀ b, hasB (G k) b ↔ rch (EM σ set n W fr) 22 k b) := by
        intro N
        induction N with
        | zero =>
          intro k hk G o4 hG hB1 hB2
          have h22 : k = 22 := by omega
          subst h22
          refine g_iload_n dX7_findHangs_201 rfl ?_
          refine g_bipush dX7_findHangs_202 (by decide) ?_
          refine g_icmp_ge (tgt := 242) dX7_findHangs_204 (by decide) (fun c204 => ?_) (fun c204 => ?_)
          · refine g_iinc dX7_findHangs_242 (by decide) rfl ⟨by omega, by omega⟩ rfl rfl ?_
            refine g_goto (tgt := 193) dX7_findHangs_245 (by decide) ?_
            exact ih (m + 1) (by omega) G _ _ hG (fun j hj => hB1 j hj)
          · exfalso; omega
        | succ N ihN =>
          intro k hk G o4 hG hB1 hB2
          have hBk := hB2 k (Nat.le_refl _) (by omega)
          have hBm : ∀ b, hasB (G m) b ↔ rch (EM σ set n W fr) m m b := fun b => by
            rcases Nat.lt_or_ge m k with h | h
            · rw [hB1 m h b]
              exact rch_self
            · exact hB2 m h (by omega) b
          have g1 := hG k
          have g2 := hG m
          refine g_iload_n dX7_findHangs_201 rfl ?_
          refine g_bipush dX7_findHangs_202 (by decide) ?_
          refine g_icmp_ge (tgt := 242) dX7_findHangs_204 (by decide) (fun c204 => ?_) (fun c204 => ?_)
          · exfalso; omega
          · refine g_aload_n dX7_findHangs_207 rfl ?_
            refine g_getA dX7_findHangs_208 tf_7_92 rfl rfl (mrf hf rfl) ?_
            refine g_iload_n dX7_findHangs_211 rfl ?_
            refine g_ialdN (k) dX7_findHangs_212 rfl (by omega) (by omega) ?_
            rw [hs28_get (by omega) (hG k)]
            refine g_iload_n dX7_findHangs_213 rfl ?_
            refine g_ishr dX7_findHangs_214 (bt_shr (by omega) (by omega)) ?_
            refine g_iconst dX7_findHangs_215 ⟨by decide, by decide⟩ ?_
            refine g_iand dX7_findHangs_216 (bt_bit (by omega) (by omega)) ?_
            refine g_iconst dX7_findHangs_217 ⟨by decide, by decide⟩ ?_
            refine g_icmp_ne (tgt := 236) dX7_findHangs_218 (by decide) (fun c218 => ?_) (fun c218 => ?_)
            · have hbit : ¬ hasB (G k) m := by
                unfold hasB
                intro h
                rw [if_pos h] at c218
                exact c218 rfl
              refine g_iinc dX7_findHangs_236 (by decide) rfl ⟨by omega, by omega⟩ rfl rfl ?_
              refine g_goto (tgt := 201) dX7_findHangs_239 (by decide) ?_
              refine ihN (k + 1) (by omega) _ _ hG (fun j hj b => ?_) (fun j hj hj2 b => hB2 j (by omega) hj2 b)
              by_cases e : j = k
              · subst e
                rw [hBk, rch_succ]
                exact ⟨Or.inl, fun h => h.elim id (fun h => absurd ((hBk m).mpr h.1) hbit)⟩
              · exact hB1 j (by omega) b
            · have hbit : hasB (G k) m := by
                unfold hasB
                by_cases h : (G k).testBit m = true
                · exact h
                · rw [if_neg h] at c218; exact absurd c218 (by decide)
              refine g_aload_n dX7_findHangs_221 rfl ?_
              refine g_getA dX7_findHangs_222 tf_7_92 rfl rfl (mrf hf rfl) ?_
              refine g_iload_n dX7_findHangs_225 rfl ?_
              refine g_dup2_11 dX7_findHangs_226 rfl rfl ?_
              refine g_ialdN (k) dX7_findHangs_227 rfl (by omega) (by omega) ?_
              rw [hs28_get (by omega) (hG k)]
              refine g_aload_n dX7_findHangs_228 rfl ?_
              refine g_getA dX7_findHangs_229 tf_7_92 rfl rfl (mrf hf rfl) ?_
              refine g_iload_n dX7_findHangs_232 rfl ?_
              refine g_ialdN (m) dX7_findHangs_233 rfl (by omega) (by omega) ?_
              rw [hs28_get (by omega) (hG m)]
              refine g_ior dX7_findHangs_234 (bt_or (by omega) (by omega)) ?_
              refine g_iastN (k) dX7_findHangs_235 rfl (by omega) (by omega) ?_
              rw [hs28_put (by omega)]
              refine g_iinc dX7_findHangs_236 (by decide) rfl ⟨by omega, by omega⟩ rfl rfl ?_
              refine g_goto (tgt := 201) dX7_findHangs_239 (by decide) ?_
              refine ihN (k + 1) (by omega) _ _ (fun j => ?_) (fun j hj b => ?_) (fun j hj hj2 b => ?_)
              · by_cases e : j = k
                · subst e; rw [upN_e]; exact or_lt22 g1 g2
                · rw [upN_n e]; exact hG j
              · by_cases e : j = k
                · subst e
                  rw [upN_e, or_bit, hBk, hBm, rch_succ]
                  have := (hBk m).mp hbit
                  exact ⟨fun h => h.elim Or.inl (fun h => Or.inr ⟨this, h⟩), fun h => h.elim Or.inl (fun h => Or.inr h.2)⟩
                · rw [upN_n e]; exact hB1 j (by omega) b
              · rw [upN_n (by omega)]; exact hB2 j (by omega) hj2 b
      refine g_iload_n dX7_findHangs_193 rfl ?_
      refine g_bipush dX7_findHangs_194 (by decide) ?_
      refine g_icmp_ge (tgt := 248) dX7_findHangs_196 (by decide) (fun c196 => ?_) (fun c196 => ?_)
      · exfalso; omega
      · refine g_iconst dX7_findHangs_199 ⟨by decide, by decide⟩ ?_
        refine g_istore_n dX7_findHangs_200 (by decide) rfl ?_
        exact inner 22 0 rfl G _ hG (fun j hj => absurd hj (Nat.not_lt_zero _)) (fun j _ hj => hB j hj)
  have wloop : ∀ (M w : Nat), w + M = W → ∀ (G : Nat → Nat) (o3 o4 : Option am_V), (∀ k, G k < 4194304) → (∀ k, k < 12 → ∀ b, hasB (G k) b ↔ EM σ set n W fr k b) → (∀ v, v < w → ∀ b, hasB (G (12 + v)) b ↔ EM σ set n W fr (12 + v) b) → (∀ v, w ≤ v → G (12 + v) = 0) → am_Go lm d 7 5 0 cX7_findHangs 142 [some (vR (some 0)), some (vI (set : Int)), some (vI (w : Int)), o3, o4] [] (hs28 σ G) (qV fun s => ∃ G : Nat → Nat, s = hs28 σ G ∧ (∀ k, G k < 4194304) ∧ ∀ k, k < 22 → ∀ b, hasB (G k) b ↔ rch (EM σ set n W fr) 22 k b) := by
    intro M
    induction M with
    | zero =>
      intro w hw G o3 o4 hG h1 h2 h3
      have hwW : w = W := by omega
      refine g_iload_n dX7_findHangs_142 rfl ?_
      refine g_aload_n dX7_findHangs_143 rfl ?_
      refine g_getI dX7_findHangs_144 tf_7_145 rfl rfl ?_
      rw [hs28_o (by omega), hW]
      refine g_icmp_ge (tgt := 191) dX7_findHangs_147 (by decide) (fun c147 => ?_) (fun c147 => ?_)
      · refine g_iconst dX7_findHangs_191 ⟨by decide, by decide⟩ ?_
        refine g_istore_n dX7_findHangs_192 (by decide) rfl ?_
        refine wout 22 0 rfl G _ _ hG (fun k hk b => ?_)
        show hasB (G k) b ↔ EM σ set n W fr k b
        rcases Nat.lt_or_ge k 12 with h | h
        · exact h1 k h b
        · obtain ⟨v, rfl⟩ : ∃ v, k = 12 + v := ⟨k - 12, by omega⟩
          rcases Nat.lt_or_ge v w with h5 | h5
          · exact h2 v h5 b
          · rw [h3 v h5]
            unfold hasB EM
            rw [Nat.zero_testBit]
            constructor
            · intro h; cases h
            · rintro (h | ⟨u, g1, g2, _⟩)
              · omega
              · omega
      · exfalso; omega
    | succ M ih =>
      intro w hw G o3 o4 hG h1 h2 h3
      have hnb : -1 ≤ hI σ 7 w ∧ hI σ 7 w ≤ 11 := hb 7 w
      refine g_iload_n dX7_findHangs_142 rfl ?_
      refine g_aload_n dX7_findHangs_143 rfl ?_
      refine g_getI dX7_findHangs_144 tf_7_145 rfl rfl ?_
      rw [hs28_o (by omega), hW]
      refine g_icmp_ge (tgt := 191) dX7_findHangs_147 (by decide) (fun c147 => ?_) (fun c147 => ?_)
      · exfalso; omega
      · refine g_aload_n dX7_findHangs_150 rfl ?_
        refine g_getA dX7_findHangs_151 tf_7_28 rfl rfl (mrf hf rfl) ?_
        refine g_iload_n dX7_findHangs_154 rfl ?_
        refine g_ialdN (w) dX7_findHangs_155 rfl (by omega) (by omega) ?_
        rw [hs28_o (by omega)]
        refine g_aload_n dX7_findHangs_156 rfl ?_
        refine g_getA dX7_findHangs_157 tf_7_77 rfl rfl (mrf hf rfl) ?_
        refine g_iload_n dX7_findHangs_160 rfl ?_
        refine g_ialdN (set) dX7_findHangs_161 rfl (by omega) (by omega) ?_
        rw [hs28_o (by omega), hn]
        refine g_callsI dX7_findHangs_162 tm_7_141 rfl ⟨Nat.le_of_ble_eq_true rfl, rfl, rfl⟩ (Nat.le_of_ble_eq_true rfl) (cm_isIn (by omega) (hs28 σ G) _ _) (fun z162 s162 h162 => ?_)
        obtain ⟨h162, e162⟩ := h162
        obtain rfl := e162.symm
        refine g_if_eq (tgt := 185) dX7_findHangs_165 (by decide) (fun c165 => ?_) (fun c165 => ?_)
        · refine g_iinc dX7_findHangs_185 (by decide) rfl ⟨by omega, by omega⟩ rfl rfl ?_
          refine g_goto (tgt := 142) dX7_findHangs_188 (by decide) ?_
          refine ih (w + 1) (by omega) _ _ _ hG h1 (fun v hv b => ?_) (fun v hv => h3 v (by omega))
          by_cases e : v = w
          · subst e
            rw [h3 v (Nat.le_refl _)]
            unfold hasB EM
            rw [Nat.zero_testBit]
            constructor
            · intro h; cases h
            · rintro (h | ⟨u, g1, g2, g3, g4, g5⟩)
              · omega
              · exfalso
                have : u = v := by omega
                subst this
                omega
          · exact h2 v (by omega) b
        · refine g_aload_n dX7_findHangs_168 rfl ?_
          refine g_getA dX7_findHangs_169 tf_7_92 rfl rfl (mrf hf rfl) ?_
          refine g_bipush dX7_findHangs_172 (by decide) ?_
          refine g_iload_n dX7_findHangs_174 rfl ?_
          refine g_iadd dX7_findHangs_175 rfl ⟨by omega, by omega⟩ ?_
          refine g_iconst dX7_findHangs_176 ⟨by decide, by decide⟩ ?_
          refine g_aload_n dX7_findHangs_177 rfl ?_
          refine g_getA dX7_findHangs_178 tf_7_28 rfl rfl (mrf hf rfl) ?_
          refine g_iload_n dX7_findHangs_181 rfl ?_
          refine g_ialdN (w) dX7_findHangs_182 rfl (by omega) (by omega) ?_
          rw [hs28_o (by omega), show hI σ 7 w = (((hI σ 7 w).toNat : Nat) : Int) by omega]
          refine g_ishl dX7_findHangs_183 (bt_shl1 (by omega)) ?_
          refine g_iastN (12 + w) dX7_findHangs_184 rfl (by omega) (by omega) ?_
          rw [hs28_put (by omega)]
          refine g_iinc dX7_findHangs_185 (by decide) rfl ⟨by omega, by omega⟩ rfl rfl ?_
          refine g_goto (tgt := 142) dX7_findHangs_188 (by decide) ?_
          refine ih (w + 1) (by omega) _ _ _ (fun j => ?_) (fun j hj b => ?_) (fun v hv b => ?_) (fun v hv => ?_)
          · by_cases e : j = 12 + w
            · subst e; rw [upN_e]; exact pow_lt22 (by omega)
            · rw [upN_n e]; exact hG j
          · rw [upN_n (by omega)]; exact h1 j hj b
          · by_cases e : v = w
            · subst e
              rw [upN_e, pow_bit]
              unfold EM
              constructor
              · intro h; exact Or.inr ⟨v, by omega, rfl, by omega, by omega, h⟩
              · rintro (h | ⟨u, g1, g2, g3, g4, g5⟩)
                · omega
                · have : u = v := by omega
                  subst this
                  exact g5
            · rw [upN_n (by omega)]; exact h2 v (by omega) b
          · rw [upN_n (by omega)]; exact h3 v (by omega)
  sorry
