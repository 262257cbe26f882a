/-! THE REFERENCE: what hangs on what -/
set_option maxHeartbeats 1000000 in
theorem cm_findHangs {D : Nat} (hD : 2 ≤ D) (σ : am_HS) (hf : σ.2.2 = mH) (hb : rgM σ) (set n W : Nat) (fr : Nat → Nat) (hset : set < 2) (hn : hI σ 23 set = (n : Int)) (hn12 : n ≤ 12) (hfr : ∀ r, r ≤ n → hI σ 26 (13 * set + r) = (fr r : Int) ∧ fr r ≤ 1600) (hmon : ∀ r, r < n → fr r ≤ fr (r + 1)) (hW : hI σ 0 2 = (W : Int)) (hW10 : W ≤ 10) (hnd : ∀ r k, r < n → fr r ≤ k → k < fr (r + 1) → hI σ 17 (1600 * set + k) = 1 → (0 ≤ hI σ 18 (1600 * set + k) ∧ hI σ 18 (1600 * set + k) < 12) ∨ (100 ≤ hI σ 18 (1600 * set + k) ∧ hI σ 18 (1600 * set + k) < 110)) : am_Do lm D mX7_findHangs σ [vR (some 0), vI (set : Int)] (qV fun s => ∃ G : Nat → Nat, s = hs28 σ G ∧ (∀ k, G k < 4194304) ∧ ∀ k, k < 22 → ∀ b, hasB (G k) b ↔ rch (EM σ set n W fr) 22 k b) := by
  obtain ⟨d, rfl⟩ : ∃ d, D = d + 1 := ⟨D - 1, by omega⟩
  refine am_enter rfl rfl (Nat.le_of_ble_eq_true rfl) ?_
  -- the closure
  have wout : ∀ (M m : Nat), m + M = 22 → ∀ (G : Nat → Nat) (o3 o4 : Option am_V), (∀ k, G k < 4194304) → (∀ k, k < 22 → ∀ b, hasB (G k) b ↔ rch (EM σ set n W fr) m k b) → am_Go lm d 7 5 0 cX7_findHangs 193 [some (vR (some 0)), some (vI (set : Int)), some (vI (m : Int)), o3, o4] [] (hs28 σ G) (qV fun s => ∃ G : Nat → Nat, s = hs28 σ G ∧ (∀ k, G k < 4194304) ∧ ∀ k, k < 22 → ∀ b, hasB (G k) b ↔ rch (EM σ set n W fr) 22 k b) := by
    intro M
    induction M with
    | zero =>
      intro m hm G o3 o4 hG hB
      have h22 : m = 22 := by omega
      subst h22
      refine g_iload_n dX7_findHangs_193 rfl ?_
      refine g_bipush dX7_findHangs_194 (by decide) ?_
      refine g_icmp_ge (tgt := 248) dX7_findHangs_196 (by decide) (fun c196 => ?_) (fun c196 => ?_)
      · refine g_return dX7_findHangs_248 rfl ⟨rfl, ?_⟩
        exact ⟨G, rfl, hG, hB⟩
      · exfalso; omega
    | succ M ih =>
      intro m hm G o3 o4 hG hB
      have inner : ∀ (N k : Nat), k + N = 22 → ∀ (G : Nat → Nat) (o4 : Option am_V), (∀ k, G k < 4194304) → (∀ j, j < k → ∀ b, hasB (G j) b ↔ rch (EM σ set n W fr) (m + 1) j b) → (∀ j, k ≤ j → j < 22 → ∀ b, hasB (G j) b ↔ rch (EM σ set n W fr) m j b) → am_Go lm d 7 5 0 cX7_findHangs 201 [some (vR (some 0)), some (vI (set : Int)), some (vI (m : Int)), some (vI (k : Int)), o4] [] (hs28 σ G) (qV fun s => ∃ G : Nat → Nat, s = hs28 σ G ∧ (∀ k, G k < 4194304) ∧ ∀ k, k < 22 → ∀ b, hasB (G k) b ↔ rch (EM σ set n W fr) 22 k b) := by
        intro N
        induction N with
        | zero =>
          intro k hk G o4 hG hB1 hB2
          have h22 : k = 22 := by omega
          subst h22
          refine g_iload_n dX7_findHangs_201 rfl ?_
          refine g_bipush dX7_findHangs_202 (by decide) ?_
          refine g_icmp_ge (tgt := 242) dX7_findHangs_204 (by decide) (fun c204 => ?_) (fun c204 => ?_)
          · refine g_iinc dX7_findHangs_242 (by decide) rfl ⟨by omega, by omega⟩ rfl rfl ?_
            refine g_goto (tgt := 193) dX7_findHangs_245 (by decide) ?_
            exact ih (m + 1) (by omega) G _ _ hG (fun j hj => hB1 j hj)
          · exfalso; omega
        | succ N ihN =>
          intro k hk G o4 hG hB1 hB2
          have hBk := hB2 k (Nat.le_refl _) (by omega)
          have hBm : ∀ b, hasB (G m) b ↔ rch (EM σ set n W fr) m m b := fun b => by
            rcases Nat.lt_or_ge m k with h | h
            · rw [hB1 m h b]
              exact rch_self
            · exact hB2 m h (by omega) b
          have g1 := hG k
          have g2 := hG m
          refine g_iload_n dX7_findHangs_201 rfl ?_
          refine g_bipush dX7_findHangs_202 (by decide) ?_
          refine g_icmp_ge (tgt := 242) dX7_findHangs_204 (by decide) (fun c204 => ?_) (fun c204 => ?_)
          · exfalso; omega
          · refine g_aload_n dX7_findHangs_207 rfl ?_
            refine g_getA dX7_findHangs_208 tf_7_92 rfl rfl (mrf hf rfl) ?_
            refine g_iload_n dX7_findHangs_211 rfl ?_
            refine g_ialdN (k) dX7_findHangs_212 rfl (by omega) (by omega) ?_
            rw [hs28_get (by omega) (hG k)]
            refine g_iload_n dX7_findHangs_213 rfl ?_
            refine g_ishr dX7_findHangs_214 (bt_shr (by omega) (by omega)) ?_
            refine g_iconst dX7_findHangs_215 ⟨by decide, by decide⟩ ?_
            refine g_iand dX7_findHangs_216 (bt_bit (by omega) (by omega)) ?_
            refine g_iconst dX7_findHangs_217 ⟨by decide, by decide⟩ ?_
            refine g_icmp_ne (tgt := 236) dX7_findHangs_218 (by decide) (fun c218 => ?_) (fun c218 => ?_)
            · have hbit : ¬ hasB (G k) m := by
                unfold hasB
                intro h
                rw [if_pos h] at c218
                exact c218 rfl
              refine g_iinc dX7_findHangs_236 (by decide) rfl ⟨by omega, by omega⟩ rfl rfl ?_
              refine g_goto (tgt := 201) dX7_findHangs_239 (by decide) ?_
              refine ihN (k + 1) (by omega) _ _ hG (fun j hj b => ?_) (fun j hj hj2 b => hB2 j (by omega) hj2 b)
              by_cases e : j = k
              · subst e
                rw [hBk, rch_succ]
                exact ⟨Or.inl, fun h => h.elim id (fun h => absurd ((hBk m).mpr h.1) hbit)⟩
              · exact hB1 j (by omega) b
            · have hbit : hasB (G k) m := by
                unfold hasB
                by_cases h : (G k).testBit m = true
                · exact h
                · rw [if_neg h] at c218; exact absurd c218 (by decide)
              refine g_aload_n dX7_findHangs_221 rfl ?_
              refine g_getA dX7_findHangs_222 tf_7_92 rfl rfl (mrf hf rfl) ?_
              refine g_iload_n dX7_findHangs_225 rfl ?_
              refine g_dup2_11 dX7_findHangs_226 rfl rfl ?_
              refine g_ialdN (k) dX7_findHangs_227 rfl (by omega) (by omega) ?_
              rw [hs28_get (by omega) (hG k)]
              refine g_aload_n dX7_findHangs_228 rfl ?_
              refine g_getA dX7_findHangs_229 tf_7_92 rfl rfl (mrf hf rfl) ?_
              refine g_iload_n dX7_findHangs_232 rfl ?_
              refine g_ialdN (m) dX7_findHangs_233 rfl (by omega) (by omega) ?_
              rw [hs28_get (by omega) (hG m)]
              refine g_ior dX7_findHangs_234 (bt_or (by omega) (by omega)) ?_
              refine g_iastN (k) dX7_findHangs_235 rfl (by omega) (by omega) ?_
              rw [hs28_put (by omega)]
              refine g_iinc dX7_findHangs_236 (by decide) rfl ⟨by omega, by omega⟩ rfl rfl ?_
              refine g_goto (tgt := 201) dX7_findHangs_239 (by decide) ?_
              refine ihN (k + 1) (by omega) _ _ (fun j => ?_) (fun j hj b => ?_) (fun j hj hj2 b => ?_)
              · by_cases e : j = k
                · subst e; rw [upN_e]; exact or_lt22 g1 g2
                · rw [upN_n e]; exact hG j
              · by_cases e : j = k
                · subst e
                  rw [upN_e, or_bit, hBk, hBm, rch_succ]
                  have := (hBk m).mp hbit
                  exact ⟨fun h => h.elim Or.inl (fun h => Or.inr ⟨this, h⟩), fun h => h.elim Or.inl (fun h => Or.inr h.2)⟩
                · rw [upN_n e]; exact hB1 j (by omega) b
              · rw [upN_n (by omega)]; exact hB2 j (by omega) hj2 b
      refine g_iload_n dX7_findHangs_193 rfl ?_
      refine g_bipush dX7_findHangs_194 (by decide) ?_
      refine g_icmp_ge (tgt := 248) dX7_findHangs_196 (by decide) (fun c196 => ?_) (fun c196 => ?_)
      · exfalso; omega
      · refine g_iconst dX7_findHangs_199 ⟨by decide, by decide⟩ ?_
        refine g_istore_n dX7_findHangs_200 (by decide) rfl ?_
        exact inner 22 0 rfl G _ hG (fun j hj => absurd hj (Nat.not_lt_zero _)) (fun j _ hj => hB j hj)
  have wloop : ∀ (M w : Nat), w + M = W → ∀ (G : Nat → Nat) (o3 o4 : Option am_V), (∀ k, G k < 4194304) → (∀ k, k < 12 → ∀ b, hasB (G k) b ↔ EM σ set n W fr k b) → (∀ v, v < w → ∀ b, hasB (G (12 + v)) b ↔ EM σ set n W fr (12 + v) b) → (∀ v, w ≤ v → G (12 + v) = 0) → am_Go lm d 7 5 0 cX7_findHangs 142 [some (vR (some 0)), some (vI (set : Int)), some (vI (w : Int)), o3, o4] [] (hs28 σ G) (qV fun s => ∃ G : Nat → Nat, s = hs28 σ G ∧ (∀ k, G k < 4194304) ∧ ∀ k, k < 22 → ∀ b, hasB (G k) b ↔ rch (EM σ set n W fr) 22 k b) := by
    intro M
    induction M with
    | zero =>
      intro w hw G o3 o4 hG h1 h2 h3
      have hwW : w = W := by omega
      refine g_iload_n dX7_findHangs_142 rfl ?_
      refine g_aload_n dX7_findHangs_143 rfl ?_
      refine g_getI dX7_findHangs_144 tf_7_145 rfl rfl ?_
      rw [hs28_o (by omega), hW]
      refine g_icmp_ge (tgt := 191) dX7_findHangs_147 (by decide) (fun c147 => ?_) (fun c147 => ?_)
      · refine g_iconst dX7_findHangs_191 ⟨by decide, by decide⟩ ?_
        refine g_istore_n dX7_findHangs_192 (by decide) rfl ?_
        refine wout 22 0 rfl G _ _ hG (fun k hk b => ?_)
        show hasB (G k) b ↔ EM σ set n W fr k b
        rcases Nat.lt_or_ge k 12 with h | h
        · exact h1 k h b
        · obtain ⟨v, rfl⟩ : ∃ v, k = 12 + v := ⟨k - 12, by omega⟩
          rcases Nat.lt_or_ge v w with h5 | h5
          · exact h2 v h5 b
          · rw [h3 v h5]
            unfold hasB EM
            rw [Nat.zero_testBit]
            constructor
            · intro h; cases h
            · rintro (h | ⟨u, g1, g2, _⟩)
              · omega
              · omega
      · exfalso; omega
    | succ M ih =>
      intro w hw G o3 o4 hG h1 h2 h3
      have hnb : -1 ≤ hI σ 7 w ∧ hI σ 7 w ≤ 11 := hb 7 w
      refine g_iload_n dX7_findHangs_142 rfl ?_
      refine g_aload_n dX7_findHangs_143 rfl ?_
      refine g_getI dX7_findHangs_144 tf_7_145 rfl rfl ?_
      rw [hs28_o (by omega), hW]
      refine g_icmp_ge (tgt := 191) dX7_findHangs_147 (by decide) (fun c147 => ?_) (fun c147 => ?_)
      · exfalso; omega
      · refine g_aload_n dX7_findHangs_150 rfl ?_
        refine g_getA dX7_findHangs_151 tf_7_28 rfl rfl (mrf hf rfl) ?_
        refine g_iload_n dX7_findHangs_154 rfl ?_
        refine g_ialdN (w) dX7_findHangs_155 rfl (by omega) (by omega) ?_
        rw [hs28_o (by omega)]
        refine g_aload_n dX7_findHangs_156 rfl ?_
        refine g_getA dX7_findHangs_157 tf_7_77 rfl rfl (mrf hf rfl) ?_
        refine g_iload_n dX7_findHangs_160 rfl ?_
        refine g_ialdN (set) dX7_findHangs_161 rfl (by omega) (by omega) ?_
        rw [hs28_o (by omega), hn]
        refine g_callsI dX7_findHangs_162 tm_7_141 rfl ⟨Nat.le_of_ble_eq_true rfl, rfl, rfl⟩ (Nat.le_of_ble_eq_true rfl) (cm_isIn (by omega) (hs28 σ G) _ _) (fun z162 s162 h162 => ?_)
        obtain ⟨h162, e162⟩ := h162
        obtain rfl := e162.symm
        refine g_if_eq (tgt := 185) dX7_findHangs_165 (by decide) (fun c165 => ?_) (fun c165 => ?_)
        · refine g_iinc dX7_findHangs_185 (by decide) rfl ⟨by omega, by omega⟩ rfl rfl ?_
          refine g_goto (tgt := 142) dX7_findHangs_188 (by decide) ?_
          refine ih (w + 1) (by omega) _ _ _ hG h1 (fun v hv b => ?_) (fun v hv => h3 v (by omega))
          by_cases e : v = w
          · subst e
            rw [h3 v (Nat.le_refl _)]
            unfold hasB EM
            rw [Nat.zero_testBit]
            constructor
            · intro h; cases h
            · rintro (h | ⟨u, g1, g2, g3, g4, g5⟩)
              · omega
              · exfalso
                have : u = v := by omega
                subst this
                omega
          · exact h2 v (by omega) b
        · refine g_aload_n dX7_findHangs_168 rfl ?_
          refine g_getA dX7_findHangs_169 tf_7_92 rfl rfl (mrf hf rfl) ?_
          refine g_bipush dX7_findHangs_172 (by decide) ?_
          refine g_iload_n dX7_findHangs_174 rfl ?_
          refine g_iadd dX7_findHangs_175 rfl ⟨by omega, by omega⟩ ?_
          refine g_iconst dX7_findHangs_176 ⟨by decide, by decide⟩ ?_
          refine g_aload_n dX7_findHangs_177 rfl ?_
          refine g_getA dX7_findHangs_178 tf_7_28 rfl rfl (mrf hf rfl) ?_
          refine g_iload_n dX7_findHangs_181 rfl ?_
          refine g_ialdN (w) dX7_findHangs_182 rfl (by omega) (by omega) ?_
          rw [hs28_o (by omega), show hI σ 7 w = (((hI σ 7 w).toNat : Nat) : Int) by omega]
          refine g_ishl dX7_findHangs_183 (bt_shl1 (by omega)) ?_
          refine g_iastN (12 + w) dX7_findHangs_184 rfl (by omega) (by omega) ?_
          rw [hs28_put (by omega)]
          refine g_iinc dX7_findHangs_185 (by decide) rfl ⟨by omega, by omega⟩ rfl rfl ?_
          refine g_goto (tgt := 142) dX7_findHangs_188 (by decide) ?_
          refine ih (w + 1) (by omega) _ _ _ (fun j => ?_) (fun j hj b => ?_) (fun v hv b => ?_) (fun v hv => ?_)
          · by_cases e : j = 12 + w
            · subst e; rw [upN_e]; exact pow_lt22 (by omega)
            · rw [upN_n e]; exact hG j
          · rw [upN_n (by omega)]; exact h1 j hj b
          · by_cases e : v = w
            · subst e
              rw [upN_e, pow_bit]
              unfold EM
              constructor
              · intro h; exact Or.inr ⟨v, by omega, rfl, by omega, by omega, h⟩
              · rintro (h | ⟨u, g1, g2, g3, g4, g5⟩)
                · omega
                · have : u = v := by omega
                  subst this
                  exact g5
            · rw [upN_n (by omega)]; exact h2 v (by omega) b
          · rw [upN_n (by omega)]; exact h3 v (by omega)
  have rloop : ∀ (M r : Nat), r + M = n → ∀ (G : Nat → Nat) (o3 o4 : Option am_V), (∀ k, G k < 4194304) → (∀ k, k < r → ∀ b, hasB (G k) b ↔ EdM σ set fr (fr (k + 1)) k b) → (∀ k, r ≤ k → G k = 0) → am_Go lm d 7 5 0 cX7_findHangs 23 [some (vR (some 0)), some (vI (set : Int)), some (vI (r : Int)), o3, o4] [] (hs28 σ G) (qV fun s => ∃ G : Nat → Nat, s = hs28 σ G ∧ (∀ k, G k < 4194304) ∧ ∀ k, k < 22 → ∀ b, hasB (G k) b ↔ rch (EM σ set n W fr) 22 k b) := by
    intro M
    induction M with
    | zero =>
      intro r hr G o3 o4 hG h1 h2
      have hrn : r = n := by omega
      refine g_iload_n dX7_findHangs_23 rfl ?_
      refine g_aload_n dX7_findHangs_24 rfl ?_
      refine g_getA dX7_findHangs_25 tf_7_77 rfl rfl (mrf hf rfl) ?_
      refine g_iload_n dX7_findHangs_28 rfl ?_
      refine g_ialdN (set) dX7_findHangs_29 rfl (by omega) (by omega) ?_
      rw [hs28_o (by omega), hn]
      refine g_icmp_ge (tgt := 140) dX7_findHangs_30 (by decide) (fun c30 => ?_) (fun c30 => ?_)
      · refine g_iconst dX7_findHangs_140 ⟨by decide, by decide⟩ ?_
        refine g_istore_n dX7_findHangs_141 (by decide) rfl ?_
        have hw1 : ∀ k, k < 12 → ∀ b, hasB (G k) b ↔ EM σ set n W fr k b := by
          intro k hk b
          unfold EM
          rcases Nat.lt_or_ge k n with h | h
          · rw [h1 k (by omega) b]
            exact ⟨fun h5 => Or.inl ⟨h, h5⟩, fun h5 => h5.elim And.right (fun ⟨u, g1, g2, _⟩ => by omega)⟩
          · rw [h2 k (by omega)]
            unfold hasB
            rw [Nat.zero_testBit]
            exact ⟨fun h => (by cases h), fun h5 => h5.elim (fun h6 => by omega) (fun ⟨u, g1, g2, _⟩ => by omega)⟩
        exact wloop W 0 (Nat.zero_add _) G _ _ hG hw1 (fun v hv => absurd hv (Nat.not_lt_zero _)) (fun v _ => h2 (12 + v) (by omega))
      · exfalso; omega
    | succ M ih =>
      intro r hr G o3 o4 hG h1 h2
      have hr1 := hfr r (by omega)
      have hr2 := hfr (r + 1) (by omega)
      have hmn := hmon r (by omega)
      have jloop : ∀ (N j : Nat), j + N = fr (r + 1) → fr r ≤ j → ∀ (G : Nat → Nat) (o4 : Option am_V), (∀ k, G k < 4194304) → (∀ k, k < r → ∀ b, hasB (G k) b ↔ EdM σ set fr (fr (k + 1)) k b) → (∀ b, hasB (G r) b ↔ EdM σ set fr j r b) → (∀ k, r < k → G k = 0) → am_Go lm d 7 5 0 cX7_findHangs 45 [some (vR (some 0)), some (vI (set : Int)), some (vI (r : Int)), some (vI (j : Int)), o4] [] (hs28 σ G) (qV fun s => ∃ G : Nat → Nat, s = hs28 σ G ∧ (∀ k, G k < 4194304) ∧ ∀ k, k < 22 → ∀ b, hasB (G k) b ↔ rch (EM σ set n W fr) 22 k b) := by
        intro N
        induction N with
        | zero =>
          intro j hj hjl G o4 hG h1 hr0 h2
          have hje : j = fr (r + 1) := by omega
          subst hje
          refine g_iload_n dX7_findHangs_45 rfl ?_
          refine g_aload_n dX7_findHangs_46 rfl ?_
          refine g_getA dX7_findHangs_47 tf_7_86 rfl rfl (mrf hf rfl) ?_
          refine g_bipush dX7_findHangs_50 (by decide) ?_
          refine g_iload_n dX7_findHangs_52 rfl ?_
          refine g_imul dX7_findHangs_53 rfl ⟨by omega, by omega⟩ ?_
          refine g_iload_n dX7_findHangs_54 rfl ?_
          refine g_iadd dX7_findHangs_55 rfl ⟨by omega, by omega⟩ ?_
          refine g_iconst dX7_findHangs_56 ⟨by decide, by decide⟩ ?_
          refine g_iadd dX7_findHangs_57 rfl ⟨by omega, by omega⟩ ?_
          refine g_ialdN (13 * set + (r + 1)) dX7_findHangs_58 rfl (by omega) (by omega) ?_
          rw [hs28_o (by omega), hr2.1]
          refine g_icmp_ge (tgt := 134) dX7_findHangs_59 (by decide) (fun c59 => ?_) (fun c59 => ?_)
          · refine g_iinc dX7_findHangs_134 (by decide) rfl ⟨by omega, by omega⟩ rfl rfl ?_
            refine g_goto (tgt := 23) dX7_findHangs_137 (by decide) ?_
            refine ih (r + 1) (by omega) G _ _ hG (fun k hk b => ?_) (fun k hk => h2 k (by omega))
            by_cases e : k = r
            · subst e; exact hr0 b
            · exact h1 k (by omega) b
          · exfalso; omega
        | succ N ihN =>
          intro j hj hjl G o4 hG h1 hr0 h2
          have g1 := hG r
          refine g_iload_n dX7_findHangs_45 rfl ?_
          refine g_aload_n dX7_findHangs_46 rfl ?_
          refine g_getA dX7_findHangs_47 tf_7_86 rfl rfl (mrf hf rfl) ?_
          refine g_bipush dX7_findHangs_50 (by decide) ?_
          refine g_iload_n dX7_findHangs_52 rfl ?_
          refine g_imul dX7_findHangs_53 rfl ⟨by omega, by omega⟩ ?_
          refine g_iload_n dX7_findHangs_54 rfl ?_
          refine g_iadd dX7_findHangs_55 rfl ⟨by omega, by omega⟩ ?_
          refine g_iconst dX7_findHangs_56 ⟨by decide, by decide⟩ ?_
          refine g_iadd dX7_findHangs_57 rfl ⟨by omega, by omega⟩ ?_
          refine g_ialdN (13 * set + (r + 1)) dX7_findHangs_58 rfl (by omega) (by omega) ?_
          rw [hs28_o (by omega), hr2.1]
          refine g_icmp_ge (tgt := 134) dX7_findHangs_59 (by decide) (fun c59 => ?_) (fun c59 => ?_)
          · exfalso; omega
          · refine g_sipush dX7_findHangs_62 (by decide) ?_
            refine g_iload_n dX7_findHangs_65 rfl ?_
            refine g_imul dX7_findHangs_66 rfl ⟨by omega, by omega⟩ ?_
            refine g_iload_n dX7_findHangs_67 rfl ?_
            refine g_iadd dX7_findHangs_68 rfl ⟨by omega, by omega⟩ ?_
            refine g_istore dX7_findHangs_69 (by decide) rfl ?_
            refine g_aload_n dX7_findHangs_71 rfl ?_
            refine g_getA dX7_findHangs_72 tf_7_59 rfl rfl (mrf hf rfl) ?_
            refine g_iload dX7_findHangs_75 rfl ?_
            refine g_ialdN (1600 * set + j) dX7_findHangs_77 rfl (by omega) (by omega) ?_
            rw [hs28_o (by omega)]
            refine g_iconst dX7_findHangs_78 ⟨by decide, by decide⟩ ?_
            refine g_icmp_ne (tgt := 128) dX7_findHangs_79 (by decide) (fun c79 => ?_) (fun c79 => ?_)
            · refine g_iinc dX7_findHangs_128 (by decide) rfl ⟨by omega, by omega⟩ rfl rfl ?_
              refine g_goto (tgt := 45) dX7_findHangs_131 (by decide) ?_
              refine ihN (j + 1) (by omega) (by omega) _ _ hG h1 (fun b => ?_) h2
              rw [hr0]
              constructor
              · rintro ⟨k, q1, q2, q3⟩
                exact ⟨k, q1, by omega, q3⟩
              · rintro ⟨k, q1, q2, q3, q4⟩
                by_cases e : k = j
                · subst e; exact absurd q3 c79
                · exact ⟨k, q1, by omega, q3, q4⟩
            · have c79 : hI σ 17 (1600 * set + j) = 1 := Decidable.of_not_not c79
              have hnm := hnd r j (by omega) hjl (by omega) c79
              obtain ⟨T, hT⟩ : ∃ T : Nat, T = tgtM (hI σ 18 (1600 * set + j)) := ⟨_, rfl⟩
              have hT22 : T < 22 := by rw [hT]; unfold tgtM; split <;> omega
              refine g_aload_n dX7_findHangs_82 rfl ?_
              refine g_getA dX7_findHangs_83 tf_7_92 rfl rfl (mrf hf rfl) ?_
              refine g_iload_n dX7_findHangs_86 rfl ?_
              refine g_dup2_11 dX7_findHangs_87 rfl rfl ?_
              refine g_ialdN (r) dX7_findHangs_88 rfl (by omega) (by omega) ?_
              rw [hs28_get (by omega) (hG r)]
              refine g_iconst dX7_findHangs_89 ⟨by decide, by decide⟩ ?_
              refine g_aload_n dX7_findHangs_90 rfl ?_
              refine g_getA dX7_findHangs_91 tf_7_62 rfl rfl (mrf hf rfl) ?_
              refine g_iload dX7_findHangs_94 rfl ?_
              refine g_ialdN (1600 * set + j) dX7_findHangs_96 rfl (by omega) (by omega) ?_
              rw [hs28_o (by omega)]
              refine g_bipush dX7_findHangs_97 (by decide) ?_
              refine g_icmp_ge (tgt := 112) dX7_findHangs_99 (by decide) (fun c99 => ?_) (fun c99 => ?_)
              · have eB : 12 + hI σ 18 (1600 * set + j) - 100 = (T : Int) := by rw [hT]; unfold tgtM; rw [if_neg (by omega)]; omega
                refine g_bipush dX7_findHangs_112 (by decide) ?_
                refine g_aload_n dX7_findHangs_114 rfl ?_
                refine g_getA dX7_findHangs_115 tf_7_62 rfl rfl (mrf hf rfl) ?_
                refine g_iload dX7_findHangs_118 rfl ?_
                refine g_ialdN (1600 * set + j) dX7_findHangs_120 rfl (by omega) (by omega) ?_
                rw [hs28_o (by omega)]
                refine g_iadd dX7_findHangs_121 rfl ⟨by omega, by omega⟩ ?_
                refine g_bipush dX7_findHangs_122 (by decide) ?_
                refine g_isub dX7_findHangs_124 rfl ⟨by omega, by omega⟩ ?_
                try rw [eB]
                refine g_ishl dX7_findHangs_125 (bt_shl1 (by omega)) ?_
                refine g_ior dX7_findHangs_126 (bt_or (by omega) (by have := pow_lt22 hT22; omega)) ?_
                refine g_iastN (r) dX7_findHangs_127 rfl (by omega) (by omega) ?_
                rw [hs28_put (by omega)]
                refine g_iinc dX7_findHangs_128 (by decide) rfl ⟨by omega, by omega⟩ rfl rfl ?_
                refine g_goto (tgt := 45) dX7_findHangs_131 (by decide) ?_
                refine ihN (j + 1) (by omega) (by omega) _ _ (fun k => ?_) (fun k hk b => ?_) (fun b => ?_) (fun k hk => ?_)
                · by_cases e : k = r
                  · subst e; rw [upN_e]; exact or_lt22 g1 (pow_lt22 hT22)
                  · rw [upN_n e]; exact hG k
                · rw [upN_n (by omega)]; exact h1 k hk b
                · rw [upN_e, or_bit, pow_bit, hr0]
                  constructor
                  · rintro (⟨k, q1, q2, q3⟩ | h)
                    · exact ⟨k, q1, by omega, q3⟩
                    · exact ⟨j, hjl, by omega, c79, by rw [← hT, h]⟩
                  · rintro ⟨k, q1, q2, q3, q4⟩
                    by_cases e : k = j
                    · subst e; exact Or.inr (by rw [← q4, hT])
                    · exact Or.inl ⟨k, q1, by omega, q3, q4⟩
                · rw [upN_n (by omega)]; exact h2 k hk
              · have eA : hI σ 18 (1600 * set + j) = (T : Int) := by rw [hT]; unfold tgtM; rw [if_pos (by omega)]; omega
                refine g_aload_n dX7_findHangs_102 rfl ?_
                refine g_getA dX7_findHangs_103 tf_7_62 rfl rfl (mrf hf rfl) ?_
                refine g_iload dX7_findHangs_106 rfl ?_
                refine g_ialdN (1600 * set + j) dX7_findHangs_108 rfl (by omega) (by omega) ?_
                rw [hs28_o (by omega), eA]
                refine g_goto (tgt := 125) dX7_findHangs_109 (by decide) ?_
                try rw [eB]
                refine g_ishl dX7_findHangs_125 (bt_shl1 (by omega)) ?_
                refine g_ior dX7_findHangs_126 (bt_or (by omega) (by have := pow_lt22 hT22; omega)) ?_
                refine g_iastN (r) dX7_findHangs_127 rfl (by omega) (by omega) ?_
                rw [hs28_put (by omega)]
                refine g_iinc dX7_findHangs_128 (by decide) rfl ⟨by omega, by omega⟩ rfl rfl ?_
                refine g_goto (tgt := 45) dX7_findHangs_131 (by decide) ?_
                refine ihN (j + 1) (by omega) (by omega) _ _ (fun k => ?_) (fun k hk b => ?_) (fun b => ?_) (fun k hk => ?_)
                · by_cases e : k = r
                  · subst e; rw [upN_e]; exact or_lt22 g1 (pow_lt22 hT22)
                  · rw [upN_n e]; exact hG k
                · rw [upN_n (by omega)]; exact h1 k hk b
                · rw [upN_e, or_bit, pow_bit, hr0]
                  constructor
                  · rintro (⟨k, q1, q2, q3⟩ | h)
                    · exact ⟨k, q1, by omega, q3⟩
                    · exact ⟨j, hjl, by omega, c79, by rw [← hT, h]⟩
                  · rintro ⟨k, q1, q2, q3, q4⟩
                    by_cases e : k = j
                    · subst e; exact Or.inr (by rw [← q4, hT])
                    · exact Or.inl ⟨k, q1, by omega, q3, q4⟩
                · rw [upN_n (by omega)]; exact h2 k hk
      refine g_iload_n dX7_findHangs_23 rfl ?_
      refine g_aload_n dX7_findHangs_24 rfl ?_
      refine g_getA dX7_findHangs_25 tf_7_77 rfl rfl (mrf hf rfl) ?_
      refine g_iload_n dX7_findHangs_28 rfl ?_
      refine g_ialdN (set) dX7_findHangs_29 rfl (by omega) (by omega) ?_
      rw [hs28_o (by omega), hn]
      refine g_icmp_ge (tgt := 140) dX7_findHangs_30 (by decide) (fun c30 => ?_) (fun c30 => ?_)
      · exfalso; omega
      · refine g_aload_n dX7_findHangs_33 rfl ?_
        refine g_getA dX7_findHangs_34 tf_7_86 rfl rfl (mrf hf rfl) ?_
        refine g_bipush dX7_findHangs_37 (by decide) ?_
        refine g_iload_n dX7_findHangs_39 rfl ?_
        refine g_imul dX7_findHangs_40 rfl ⟨by omega, by omega⟩ ?_
        refine g_iload_n dX7_findHangs_41 rfl ?_
        refine g_iadd dX7_findHangs_42 rfl ⟨by omega, by omega⟩ ?_
        refine g_ialdN (13 * set + r) dX7_findHangs_43 rfl (by omega) (by omega) ?_
        rw [hs28_o (by omega), hr1.1]
        refine g_istore_n dX7_findHangs_44 (by decide) rfl ?_
        refine jloop (fr (r + 1) - fr r) (fr r) (by omega) (Nat.le_refl _) G _ hG h1 (fun b => ?_) (fun k hk => h2 k (by omega))
        rw [h2 r (Nat.le_refl _)]
        unfold hasB
        rw [Nat.zero_testBit]
        exact ⟨fun h => (by cases h), fun ⟨k, q1, q2, _⟩ => by omega⟩
  have zloop : ∀ (M k : Nat), k + M = 22 → ∀ (o3 o4 : Option am_V), am_Go lm d 7 5 0 cX7_findHangs 2 [some (vR (some 0)), some (vI (set : Int)), some (vI (k : Int)), o3, o4] [] (fillI σ 28 k 0) (qV fun s => ∃ G : Nat → Nat, s = hs28 σ G ∧ (∀ k, G k < 4194304) ∧ ∀ k, k < 22 → ∀ b, hasB (G k) b ↔ rch (EM σ set n W fr) 22 k b) := by
    intro M
    induction M with
    | zero =>
      intro k hk o3 o4
      have h22 : k = 22 := by omega
      subst h22
      refine g_iload_n dX7_findHangs_2 rfl ?_
      refine g_bipush dX7_findHangs_3 (by decide) ?_
      refine g_icmp_ge (tgt := 21) dX7_findHangs_5 (by decide) (fun c5 => ?_) (fun c5 => ?_)
      · refine g_iconst dX7_findHangs_21 ⟨by decide, by decide⟩ ?_
        refine g_istore_n dX7_findHangs_22 (by decide) rfl ?_
        rw [hs28_0]
        exact rloop n 0 (Nat.zero_add _) _ _ _ (fun _ => (by decide : 0 < 4194304)) (fun k hk => absurd hk (Nat.not_lt_zero _)) (fun _ _ => rfl)
      · exfalso; omega
    | succ M ih =>
      intro k hk o3 o4
      refine g_iload_n dX7_findHangs_2 rfl ?_
      refine g_bipush dX7_findHangs_3 (by decide) ?_
      refine g_icmp_ge (tgt := 21) dX7_findHangs_5 (by decide) (fun c5 => ?_) (fun c5 => ?_)
      · exfalso; omega
      · refine g_aload_n dX7_findHangs_8 rfl ?_
        refine g_getA dX7_findHangs_9 tf_7_92 rfl rfl (mrf hf rfl) ?_
        refine g_iload_n dX7_findHangs_12 rfl ?_
        refine g_iconst dX7_findHangs_13 ⟨by decide, by decide⟩ ?_
        refine g_iastN (k) dX7_findHangs_14 rfl (by omega) (by omega) ?_
        refine g_iinc dX7_findHangs_15 (by decide) rfl ⟨by omega, by omega⟩ rfl rfl ?_
        refine g_goto (tgt := 2) dX7_findHangs_18 (by decide) ?_
        rw [fillI_s]
        exact ih (k + 1) (by omega) _ _
  refine g_iconst dX7_findHangs_0 ⟨by decide, by decide⟩ ?_
  refine g_istore_n dX7_findHangs_1 (by decide) rfl ?_
  have := zloop 22 0 rfl none none
  rw [fillI_0] at this
  exact this

theorem cm_isRing {D : Nat} (hD : 1 ≤ D) (σ : am_HS) (hf : σ.2.2 = mH) (G : Nat → Nat) (hG : ∀ k, G k < 4194304) : am_Do lm D mX7_isRing (hs28 σ G) [vR (some 0)] (qI fun z s => (z = 1 ∧ (∃ k, k < 22 ∧ hasB (G k) k) ∨ z = 0 ∧ ¬ ∃ k, k < 22 ∧ hasB (G k) k) ∧ s = hs28 σ G) := by
  obtain ⟨d, rfl⟩ : ∃ d, D = d + 1 := ⟨D - 1, by omega⟩
  refine am_enter rfl rfl (Nat.le_of_ble_eq_true rfl) ?_
  have loop : ∀ (M k : Nat), k + M = 22 → ∀ (i : Int), (i = 1 ∧ (∃ j, j < k ∧ hasB (G j) j) ∨ i = 0 ∧ ¬ ∃ j, j < k ∧ hasB (G j) j) → am_Go lm d 7 3 2 cX7_isRing 4 [some (vR (some 0)), some (vI i), some (vI (k : Int))] [] (hs28 σ G) (qI fun z s => (z = 1 ∧ (∃ k, k < 22 ∧ hasB (G k) k) ∨ z = 0 ∧ ¬ ∃ k, k < 22 ∧ hasB (G k) k) ∧ s = hs28 σ G) := by
    intro M
    induction M with
    | zero =>
      intro k hk i hi
      have h22 : k = 22 := by omega
      subst h22
      refine g_iload_n dX7_isRing_4 rfl ?_
      refine g_bipush dX7_isRing_5 (by decide) ?_
      refine g_icmp_ge (tgt := 40) dX7_isRing_7 (by decide) (fun c7 => ?_) (fun c7 => ?_)
      · refine g_iload_n dX7_isRing_40 rfl ?_
        refine g_ireturn dX7_isRing_41 (Or.inr ⟨rfl, by rcases hi with h | h; exact Or.inr h.1; exact Or.inl h.1⟩) ⟨_, rfl, ?_⟩
        exact ⟨hi, rfl⟩
      · exfalso; omega
    | succ M ih =>
      intro k hk i hi
      have g1 := hG k
      refine g_iload_n dX7_isRing_4 rfl ?_
      refine g_bipush dX7_isRing_5 (by decide) ?_
      refine g_icmp_ge (tgt := 40) dX7_isRing_7 (by decide) (fun c7 => ?_) (fun c7 => ?_)
      · exfalso; omega
      · refine g_iload_n dX7_isRing_10 rfl ?_
        refine g_if_ne (tgt := 28) dX7_isRing_11 (by decide) (fun c11 => ?_) (fun c11 => ?_)
        · refine g_iconst dX7_isRing_28 ⟨by decide, by decide⟩ ?_
          refine g_goto (tgt := 33) dX7_isRing_29 (by decide) ?_
          refine g_istore_n dX7_isRing_33 (by decide) rfl ?_
          refine g_iinc dX7_isRing_34 (by decide) rfl ⟨by omega, by omega⟩ rfl rfl ?_
          refine g_goto (tgt := 4) dX7_isRing_37 (by decide) ?_
          first
            | exact ih (k + 1) (by omega) 1 (Or.inl ⟨rfl, by rcases hi with h | h; exact ⟨_, by have := h.2.choose_spec.1; omega, h.2.choose_spec.2⟩; exact absurd h.1 c11⟩)
            | exact ih (k + 1) (by omega) 1 (Or.inl ⟨rfl, k, by omega, hbit⟩)
            | exact ih (k + 1) (by omega) 0 (Or.inr ⟨rfl, fun ⟨j, h1, h2⟩ => by
                by_cases e : j = k
                · subst e; exact hbit h2
                · rcases hi with h | h
                  · exact absurd (h.1.symm.trans (Decidable.of_not_not c11)) (by decide)
                  · exact h.2 ⟨j, by omega, h2⟩⟩)
        · refine g_aload_n dX7_isRing_14 rfl ?_
          refine g_getA dX7_isRing_15 tf_7_92 rfl rfl (mrf hf rfl) ?_
          refine g_iload_n dX7_isRing_18 rfl ?_
          refine g_ialdN (k) dX7_isRing_19 rfl (by omega) (by omega) ?_
          rw [hs28_get (by omega) (hG k)]
          refine g_iload_n dX7_isRing_20 rfl ?_
          refine g_ishr dX7_isRing_21 (bt_shr (by omega) (by omega)) ?_
          refine g_iconst dX7_isRing_22 ⟨by decide, by decide⟩ ?_
          refine g_iand dX7_isRing_23 (bt_bit (by omega) (by omega)) ?_
          refine g_iconst dX7_isRing_24 ⟨by decide, by decide⟩ ?_
          refine g_icmp_ne (tgt := 32) dX7_isRing_25 (by decide) (fun c25 => ?_) (fun c25 => ?_)
          · have hbit : ¬ hasB (G k) k := by
              unfold hasB
              intro h
              rw [if_pos h] at c25
              exact c25 rfl
            refine g_iconst dX7_isRing_32 ⟨by decide, by decide⟩ ?_
            refine g_istore_n dX7_isRing_33 (by decide) rfl ?_
            refine g_iinc dX7_isRing_34 (by decide) rfl ⟨by omega, by omega⟩ rfl rfl ?_
            refine g_goto (tgt := 4) dX7_isRing_37 (by decide) ?_
            first
              | exact ih (k + 1) (by omega) 1 (Or.inl ⟨rfl, by rcases hi with h | h; exact ⟨_, by have := h.2.choose_spec.1; omega, h.2.choose_spec.2⟩; exact absurd h.1 c11⟩)
              | exact ih (k + 1) (by omega) 1 (Or.inl ⟨rfl, k, by omega, hbit⟩)
              | exact ih (k + 1) (by omega) 0 (Or.inr ⟨rfl, fun ⟨j, h1, h2⟩ => by
                  by_cases e : j = k
                  · subst e; exact hbit h2
                  · rcases hi with h | h
                    · exact absurd (h.1.symm.trans (Decidable.of_not_not c11)) (by decide)
                    · exact h.2 ⟨j, by omega, h2⟩⟩)
          · have hbit : hasB (G k) k := by
              unfold hasB
              by_cases h : (G k).testBit k = true
              · exact h
              · rw [if_neg h] at c25; exact absurd c25 (by decide)
            refine g_iconst dX7_isRing_28 ⟨by decide, by decide⟩ ?_
            refine g_goto (tgt := 33) dX7_isRing_29 (by decide) ?_
            refine g_istore_n dX7_isRing_33 (by decide) rfl ?_
            refine g_iinc dX7_isRing_34 (by decide) rfl ⟨by omega, by omega⟩ rfl rfl ?_
            refine g_goto (tgt := 4) dX7_isRing_37 (by decide) ?_
            first
              | exact ih (k + 1) (by omega) 1 (Or.inl ⟨rfl, by rcases hi with h | h; exact ⟨_, by have := h.2.choose_spec.1; omega, h.2.choose_spec.2⟩; exact absurd h.1 c11⟩)
              | exact ih (k + 1) (by omega) 1 (Or.inl ⟨rfl, k, by omega, hbit⟩)
              | exact ih (k + 1) (by omega) 0 (Or.inr ⟨rfl, fun ⟨j, h1, h2⟩ => by
                  by_cases e : j = k
                  · subst e; exact hbit h2
                  · rcases hi with h | h
                    · exact absurd (h.1.symm.trans (Decidable.of_not_not c11)) (by decide)
                    · exact h.2 ⟨j, by omega, h2⟩⟩)
  refine g_iconst dX7_isRing_0 ⟨by decide, by decide⟩ ?_
  refine g_istore_n dX7_isRing_1 (by decide) rfl ?_
  refine g_iconst dX7_isRing_2 ⟨by decide, by decide⟩ ?_
  refine g_istore_n dX7_isRing_3 (by decide) rfl ?_
  exact loop 22 0 rfl 0 (Or.inr ⟨rfl, fun ⟨j, h, _⟩ => absurd h (Nat.not_lt_zero _)⟩)

