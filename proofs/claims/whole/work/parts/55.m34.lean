/-! THE REFERENCE: reading all rules, the loop -/
theorem LsR_snoc {T : Nat → Int × Int} {acc : List RU} {a : RU} : LsR T (acc ++ [a]) ↔ LsR T acc ∨ ∃ l, a.2.2.1 ≤ l ∧ l < a.2.2.2 ∧ T l = (3, 45) := by
  unfold LsR
  constructor
  · rintro ⟨b, hb, h⟩
    rcases List.mem_append.mp hb with hb | hb
    · exact Or.inl ⟨b, hb, h⟩
    · rw [List.mem_singleton] at hb
      subst hb
      exact Or.inr h
  · rintro (⟨b, hb, h⟩ | h)
    · exact ⟨b, List.mem_append_left _ hb, h⟩
    · exact ⟨a, List.mem_append_right _ (List.mem_singleton.mpr rfl), h⟩
theorem RuI_snoc {oth n : Nat} {tx : Nat → Int} {acc : List RU} {cf : Nat → Nat} {s s7 : am_HS} (hR : RuI oth n tx acc cf s) {v : Int} {e : NDn} {i j c2 : Nat} (hr : acc.length < 12) (hE : ∀ o k, 17 ≤ o → o ≤ 22 → 1600 * oth ≤ k → k < 1600 * oth + cf acc.length → hI s7 o k = hI s o k) (h24o : ∀ k, k < acc.length → hI s7 24 (12 * oth + k) = hI s 24 (12 * oth + k) ∧ hI s7 25 (12 * oth + k) = hI s 25 (12 * oth + k)) (h24 : hI s7 24 (12 * oth + acc.length) = v) (h25 : hI s7 25 (12 * oth + acc.length) = ((1600 * oth + cf acc.length : Nat) : Int)) (hc : cf acc.length < c2) (hnd : NdP (tdM s7) 27 (1600 * oth + cf acc.length) (1600 * oth + c2) e) (hnm : NmP (tdM s7) (tkT tx n) (1600 * oth + cf acc.length) (1600 * oth + c2) i j) (h23 : hI s7 23 oth = ((acc.length + 1 : Nat) : Int)) (h26o : ∀ k, k < acc.length → hI s7 26 (13 * oth + k) = hI s 26 (13 * oth + k)) (h26 : hI s7 26 (13 * oth + acc.length) = (cf acc.length : Int)) (h26b : hI s7 26 (13 * oth + acc.length + 1) = (c2 : Int)) (hls : hI s7 27 oth = 1 ↔ hI s 27 oth = 1 ∨ ∃ l, i ≤ l ∧ l < j ∧ tkT tx n l = (3, 45)) : RuI oth n tx (acc ++ [(v, (e, (i, j)))]) (fun k => if k ≤ acc.length then cf k else c2) s7 ∧ (fun k => if k ≤ acc.length then cf k else c2) (acc ++ [(v, (e, (i, j)))]).length = c2 := by
  obtain ⟨hK, hl12, g23, hcf0, hcfm, g26, gls⟩ := hR
  have hcm := cf_mono hcfm
  have hK7 := RuI_up hK hcm hE h24o
  have hl : (acc ++ [(v, (e, (i, j)))]).length = acc.length + 1 := by simp
  refine ⟨⟨?_, by omega, ?_, ?_, ?_, ?_, ?_⟩, ?_⟩
  · intro k a ha
    rcases Nat.lt_or_ge k acc.length with q | q
    · rw [List.getElem?_append_left q] at ha
      have := hK7 k a ha
      dsimp only
      rw [if_pos (by omega), if_pos (by omega)]
      exact this
    · rw [List.getElem?_append_right q] at ha
      have hl2 := gl_lt ha
      simp at hl2
      have ek : k = acc.length := by omega
      subst ek
      simp at ha
      subst ha
      dsimp only
      rw [if_pos (Nat.le_refl _), if_neg (by omega)]
      exact ⟨h24, h25, hc, hnd, hnm⟩
  · rw [hl]; exact h23
  · dsimp only
    rw [if_pos (Nat.zero_le _)]
    exact hcf0
  · intro k hk
    rw [hl] at hk
    dsimp only
    rcases Nat.lt_or_ge k acc.length with q | q
    · rw [if_pos (by omega), if_pos (by omega)]
      exact hcfm k q
    · have ek : k = acc.length := by omega
      subst ek
      rw [if_pos (Nat.le_refl _), if_neg (by omega)]
      exact hc
  · intro _ k hk
    rw [hl] at hk
    dsimp only
    rcases Nat.lt_or_ge k acc.length with q | q
    · rw [if_pos (by omega), h26o k q]
      exact g26 (by omega) k (by omega)
    · rcases Nat.lt_or_ge acc.length k with q2 | q2
      · have ek : k = acc.length + 1 := by omega
        subst ek
        rw [if_neg (by omega)]
        exact h26b
      · have ek : k = acc.length := by omega
        subst ek
        rw [if_pos (Nat.le_refl _)]
        exact h26
  · rw [hls, gls, LsR_snoc]
  · dsimp only
    rw [hl, if_neg (by omega)]

def RuN (oth n : Nat) (tx : Nat → Int) (acc : List RU) (cf : Nat → Nat) (v : Int) (e : NDn) (i j c2 : Nat) (s u : am_HS) : Prop := (∀ o k, 17 ≤ o → o ≤ 22 → 1600 * oth ≤ k → k < 1600 * oth + cf acc.length → hI u o k = hI s o k) ∧ (∀ k, k < acc.length → hI u 24 (12 * oth + k) = hI s 24 (12 * oth + k) ∧ hI u 25 (12 * oth + k) = hI s 25 (12 * oth + k)) ∧ hI u 24 (12 * oth + acc.length) = v ∧ hI u 25 (12 * oth + acc.length) = ((1600 * oth + cf acc.length : Nat) : Int) ∧ cf acc.length < c2 ∧ NdP (tdM u) 27 (1600 * oth + cf acc.length) (1600 * oth + c2) e ∧ NmP (tdM u) (tkT tx n) (1600 * oth + cf acc.length) (1600 * oth + c2) i j ∧ (∀ k, k < acc.length → hI u 26 (13 * oth + k) = hI s 26 (13 * oth + k)) ∧ hI u 26 (13 * oth + acc.length) = (cf acc.length : Int) ∧ (Unit → (hI u 27 oth = 1 ↔ hI s 27 oth = 1 ∨ ∃ l, i ≤ l ∧ l < j ∧ tkT tx n l = (3, 45)))
theorem RuN.of {oth n : Nat} {tx : Nat → Int} {acc : List RU} {cf : Nat → Nat} {v : Int} {e : NDn} {i j c2 : Nat} {s u u' : am_HS} (h : RuN oth n tx acc cf v e i j c2 s u) (he : ∀ o k, (17 ≤ o ∧ o ≤ 22 ∨ o = 24 ∨ o = 25 ∨ o = 27 ∨ o = 26 ∧ k ≤ 13 * oth + acc.length) → hI u' o k = hI u o k) : RuN oth n tx acc cf v e i j c2 s u' := by
  obtain ⟨h1, h2, h3, h4, h5, h6, h7, h8, h9, h10⟩ := h
  refine ⟨fun o k a b c d => (he o k (by omega)).trans (h1 o k a b c d), fun k hk => ⟨(he 24 _ (by omega)).trans (h2 k hk).1, (he 25 _ (by omega)).trans (h2 k hk).2⟩, (he 24 _ (by omega)).trans h3, (he 25 _ (by omega)).trans h4, h5, ?_, ?_, fun k hk => (he 26 _ (by omega)).trans (h8 k hk), (he 26 _ (by omega)).trans h9, ?_⟩
  · exact NdP_congr (t := tdM u) (fun k _ _ => ⟨he 17 k (by omega), he 18 k (by omega), he 19 k (by omega)⟩) (fun k _ _ => ⟨he 20 k (by omega), he 22 k (by omega)⟩) h6
  · exact NmP.congr (t := tdM u) h7 (fun k _ _ => ⟨he 17 k (by omega), he 18 k (by omega)⟩)
  · intro x
    rw [he 27 oth (by omega)]
    exact h10 x
theorem parse_tail {oth n d : Nat} {tx : Nat → Int} {σ : am_HS} (hD : 40 ≤ d) {acc : List RU} {cf : Nat → Nat} {v : Int} {e : NDn} {i j c2 m : Nat} {s s5 : am_HS} (hR : RuI oth n tx acc cf s) (hN : RuN oth n tx acc cf v e i j c2 s s5) (r : Nat) (hr : acc.length = r) (hr12 : r < 12) (hx5 : PFx oth n tx s5) (hp5 : PFi tx n j s5) (f5 : QFr oth σ s5) (h23 : hI s5 23 oth = (r : Int)) (h36 : hI s5 0 36 = (c2 : Int)) (hc2 : c2 ≤ 2 * j + 1) (R : Nat ⊕ List RU) (hRR : (if tkT tx n j = (3, 59) then (if (tkT tx n (j + 1)).1 = 0 then Sum.inr (acc ++ [(v, (e, (i, j)))]) else pRA (tkT tx n) m (acc ++ [(v, (e, (i, j)))]) (j + 1)) else Sum.inl j) = R) (hnext : ∀ (cf2 : Nat → Nat) (s7 : am_HS) (o3 o4 : Option am_V), PFx oth n tx s7 → PFi tx n (j + 1) s7 → QFr oth σ s7 → RuI oth n tx (acc ++ [(v, (e, (i, j)))]) cf2 s7 → hI s7 0 36 = (cf2 (acc ++ [(v, (e, (i, j)))]).length : Int) → cf2 (acc ++ [(v, (e, (i, j)))]).length ≤ 2 * (j + 1) + 1 → am_Go lm d 7 5 2 cX7_parses 46 [some (vR (some 0)), some (vI (n : Int)), some (vI 1), o3, o4] [] s7 (qI fun z u => PaQ oth n tx σ (pRA (tkT tx n) m (acc ++ [(v, (e, (i, j)))]) (j + 1)) z u)) (o4 : Option am_V) : am_Go lm d 7 5 2 cX7_parses 186 [some (vR (some 0)), some (vI (n : Int)), some (vI 1), some (vI (r : Int)), o4] [] s5 (qI fun z u => PaQ oth n tx σ (R) z u) := by
  have hoth : oth < 2 := hx5.2.2.2.2.2.1
  have hnn : n ≤ 600 := hx5.2.2.2.2.2.2
  have hle := hp5.le
  refine g_aload_n dX7_parses_186 rfl ?_
  refine g_bipush dX7_parses_187 (by decide) ?_
  refine g_callvV dX7_parses_189 tm_7_229 rfl ⟨rfl, rfl⟩ rfl (Nat.le_of_ble_eq_true rfl) (cm_mustP (by omega) s5 hx5 hp5 59) (fun s189 h189 => ?_)
  obtain ⟨hx6, h189⟩ := h189
  have hf6 : s189.2.2 = mH := hx6.1
  have ho6 : hI s189 0 43 = (oth : Int) := hx6.2.2.1
  rcases h189 with ⟨hT2, w6, hp6⟩ | ⟨hT2, fr6, h29⟩
  · rw [if_pos hT2] at hRR
    have q6 : ∀ o k, ¬ (o = 0 ∧ 24 ≤ k ∧ k ≤ 27) → hI s189 o k = hI s5 o k := w6.2
    have t23 : hI s189 23 oth = (r : Int) := by rw [q6 _ _ (by omega)]; exact h23
    have t36 : hI s189 0 36 = (c2 : Int) := by rw [q6 _ _ (by omega)]; exact h36
    have hf := hf6
    have r1 : rI ((r : Int) + 1) := ⟨by omega, by omega⟩
    have rc2 : rI (c2 : Int) := ⟨by omega, by omega⟩
    refine g_aload_n dX7_parses_192 rfl ?_
    refine g_getA dX7_parses_193 tf_7_77 rfl rfl (mrf hf rfl) ?_
    refine g_aload_n dX7_parses_196 rfl ?_
    refine g_getI dX7_parses_197 tf_7_207 rfl rfl ?_
    rw [ho6]
    refine g_dup2_11 dX7_parses_200 rfl rfl ?_
    refine g_ialdN (oth) dX7_parses_201 rfl (by omega) (by omega) ?_
    rw [t23]
    refine g_iconst dX7_parses_202 ⟨by decide, by decide⟩ ?_
    refine g_iadd dX7_parses_203 rfl ⟨by omega, by omega⟩ ?_
    refine g_iastN (oth) dX7_parses_204 rfl (by omega) (by omega) ?_
    refine g_aload_n dX7_parses_205 rfl ?_
    refine g_getA dX7_parses_206 tf_7_86 rfl rfl (mrf hf rfl) ?_
    refine g_bipush dX7_parses_209 (by decide) ?_
    refine g_aload_n dX7_parses_211 rfl ?_
    refine g_getI dX7_parses_212 tf_7_207 rfl rfl ?_
    rw [hI_uI_n (by omega), ho6]
    refine g_imul dX7_parses_215 rfl ⟨by omega, by omega⟩ ?_
    refine g_iload_n dX7_parses_216 rfl ?_
    refine g_iadd dX7_parses_217 rfl ⟨by omega, by omega⟩ ?_
    refine g_iconst dX7_parses_218 ⟨by decide, by decide⟩ ?_
    refine g_iadd dX7_parses_219 rfl ⟨by omega, by omega⟩ ?_
    refine g_aload_n dX7_parses_220 rfl ?_
    refine g_getI dX7_parses_221 tf_7_210 rfl rfl ?_
    rw [hI_uI_n (by omega), t36]
    refine g_iastN (13 * oth + r + 1) dX7_parses_224 rfl (by omega) (by omega) ?_
    refine g_aload_n dX7_parses_225 rfl ?_
    have e7 : ∀ o k, ¬ (o = 23 ∧ k = oth) → ¬ (o = 26 ∧ k = 13 * oth + r + 1) → hI (uI (uI s189 23 oth ((r : Int) + 1)) 26 (13 * oth + r + 1) (c2 : Int)) o k = hI s189 o k := fun o k a b => by rw [hI_uI_n b, hI_uI_n a]
    have z23 : hI (uI (uI s189 23 oth ((r : Int) + 1)) 26 (13 * oth + r + 1) (c2 : Int)) 23 oth = ((r + 1 : Nat) : Int) := by rw [hI_uI_n (by omega), hI_uI_e r1]; omega
    have z26 : hI (uI (uI s189 23 oth ((r : Int) + 1)) 26 (13 * oth + r + 1) (c2 : Int)) 26 (13 * oth + r + 1) = (c2 : Int) := hI_uI_e rc2
    have f7 : QFr oth σ (uI (uI s189 23 oth ((r : Int) + 1)) 26 (13 * oth + r + 1) (c2 : Int)) := ((f5.tr (w6.pf (oth := oth) (c := 0)).q).u (by unfold scQ; omega)).u (by unfold scQ; omega)
    have hx7 : PFx oth n tx (uI (uI s189 23 oth ((r : Int) + 1)) 26 (13 * oth + r + 1) (c2 : Int)) := hx6.q (((QFr.rf oth _).u (by unfold scQ; omega)).u (by unfold scQ; omega)) ((e7 _ _ (by omega) (by omega)).trans hx6.2.2.2.1) ((hx6.2.1.u (rg_ff (by omega) r1)).u (rg_ff (by omega) rc2))
    have hp7 : PFi tx n (j + 1) (uI (uI s189 23 oth ((r : Int) + 1)) 26 (13 * oth + r + 1) (c2 : Int)) := hp6.of (fun k hk => e7 _ _ (by omega) (by omega))
    generalize uI (uI s189 23 oth ((r : Int) + 1)) 26 (13 * oth + r + 1) (c2 : Int) = s7 at *
    have hw7 := hp7.w
    obtain ⟨h1, h2, h3, h4, h5, h6, h7, h8, h9, h10⟩ := hN.of (u' := s7) (fun o k hk => by rw [hr] at hk; rw [e7 o k (by omega) (by omega), q6 o k (by omega)])
    have hS := RuI_snoc hR (s7 := s7) (by omega) h1 h2 h3 h4 h5 h6 h7 (by rw [hr]; exact z23) h8 h9 (by rw [hr]; exact z26) (h10 ())
    generalize (fun k => if k ≤ acc.length then cf k else c2) = cf2 at hS
    have g36 : hI s7 0 36 = (c2 : Int) := by rw [e7 _ _ (by omega) (by omega)]; exact t36
    have hnx := fun o3 o4 => hnext _ s7 o3 o4 hx7 hp7 f7 hS.1 (by rw [hS.2]; exact g36) (by rw [hS.2]; omega)
    have hlen : (acc ++ [(v, (e, (i, j)))]).length = r + 1 := by rw [List.length_append, hr]; rfl
    clear h10 hnext
    refine g_getI dX7_parses_226 tf_7_181 rfl rfl ?_
    refine g_if_eq (tgt := 236) dX7_parses_229 (by decide) (fun c229 => ?_) (fun c229 => ?_)
    · rw [if_pos (by omega)] at hRR
      refine g_iconst dX7_parses_236 ⟨by decide, by decide⟩ ?_
      refine g_istore_n dX7_parses_237 (by decide) rfl ?_
      refine g_goto (tgt := 46) dX7_parses_238 (by decide) ?_
      first
        | (rw [← hRR]; exact hnx _ _)
        | (subst hRR
           have hp79 := hp7.2.2
           refine g_iload_n dX7_parses_46 rfl ?_
           refine g_if_eq (tgt := 241) dX7_parses_47 (by decide) (fun c47 => ?_) (fun c47 => ?_)
           · refine g_aload_n dX7_parses_241 rfl ?_
             refine g_callvI dX7_parses_242 tm_7_193 rfl ⟨rfl, rfl⟩ rfl (Nat.le_of_ble_eq_true rfl) (cm_isFine (by omega) _) (fun z242 s242 h242 => ?_)
             obtain ⟨h242, e242⟩ := h242
             obtain rfl := e242.symm
             refine g_ireturn dX7_parses_245 (Or.inr ⟨rfl, by omega⟩) ⟨_, rfl, ?_⟩
             exact ⟨f7, hx7.2.1, by omega, by rw [hlen]; omega, _, hS.1, by rw [hS.2]; omega⟩
           · exfalso; omega)
    · rw [if_neg (by omega)] at hRR
      refine g_iconst dX7_parses_232 ⟨by decide, by decide⟩ ?_
      refine g_goto (tgt := 237) dX7_parses_233 (by decide) ?_
      refine g_istore_n dX7_parses_237 (by decide) rfl ?_
      refine g_goto (tgt := 46) dX7_parses_238 (by decide) ?_
      first
        | (rw [← hRR]; exact hnx _ _)
        | (subst hRR
           have hp79 := hp7.2.2
           refine g_iload_n dX7_parses_46 rfl ?_
           refine g_if_eq (tgt := 241) dX7_parses_47 (by decide) (fun c47 => ?_) (fun c47 => ?_)
           · refine g_aload_n dX7_parses_241 rfl ?_
             refine g_callvI dX7_parses_242 tm_7_193 rfl ⟨rfl, rfl⟩ rfl (Nat.le_of_ble_eq_true rfl) (cm_isFine (by omega) _) (fun z242 s242 h242 => ?_)
             obtain ⟨h242, e242⟩ := h242
             obtain rfl := e242.symm
             refine g_ireturn dX7_parses_245 (Or.inr ⟨rfl, by omega⟩) ⟨_, rfl, ?_⟩
             exact ⟨f7, hx7.2.1, by omega, by rw [hlen]; omega, _, hS.1, by rw [hS.2]; omega⟩
           · exfalso; omega)
  · rw [if_neg hT2] at hRR
    subst hRR
    exact parse_bad3 hD _ r j (by omega) _ hf6 ho6 hoth (by rw [(fr6 0).2 23 oth (by unfold scP; omega)]; exact h23) (f5.tr (fr6 0).q) hx6.2.1 h29
