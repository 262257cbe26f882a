/-! THE REFERENCE: reading all rules -/
/-- a rule that was read: its name, its meaning, its words -/
abbrev RU : Type := Int × (NDn × (Nat × Nat))
def pRA (T : Nat → Int × Int) : Nat → List RU → Nat → Nat ⊕ List RU
  | 0, _, i => .inl i
  | m + 1, acc, i => if (T i).1 = 2 ∧ fnS (T i).2 = 0 ∧ wkS (T i).2 < 0 ∧ acc.length ≠ 12 then
      (if T (i + 1) = (3, 61) then (match pS T 8 (i + 2) with
        | .inl g => .inl g
        | .inr q => if T q.2 = (3, 59) then (if (T (q.2 + 1)).1 = 0 then .inr (acc ++ [((T i).2, (q.1, (i + 2, q.2)))]) else pRA T m (acc ++ [((T i).2, (q.1, (i + 2, q.2)))]) (q.2 + 1)) else .inl q.2) else .inl (i + 1)) else .inl i
def scQ (oth o j : Nat) : Prop := (o = 0 ∧ (24 ≤ j ∧ j ≤ 29 ∨ j = 36)) ∨ (o = 27 ∧ j = oth) ∨ (17 ≤ o ∧ o ≤ 22 ∧ 1600 * oth ≤ j ∧ j < 1600 * oth + 1600) ∨ (o = 23 ∧ j = oth) ∨ ((o = 24 ∨ o = 25) ∧ 12 * oth ≤ j ∧ j < 12 * oth + 12) ∨ (o = 26 ∧ 13 * oth ≤ j ∧ j < 13 * oth + 13)
def QFr (oth : Nat) (σ s : am_HS) : Prop := s.2 = σ.2 ∧ ∀ o j, ¬ scQ oth o j → hI s o j = hI σ o j
theorem QFr.rf (oth : Nat) (σ : am_HS) : QFr oth σ σ := ⟨rfl, fun _ _ _ => rfl⟩
theorem QFr.tr {oth : Nat} {σ s u : am_HS} (h : QFr oth σ s) (h2 : QFr oth s u) : QFr oth σ u := ⟨h2.1.trans h.1, fun o j k => (h2.2 o j k).trans (h.2 o j k)⟩
theorem QFr.u {oth : Nat} {σ s : am_HS} (h : QFr oth σ s) {o j : Nat} {x : Int} (hj : scQ oth o j) : QFr oth σ (uI s o j x) := ⟨h.1, fun a b k => (hI_uI_n (fun q => k (by rw [q.1, q.2]; exact hj))).trans (h.2 a b k)⟩
theorem PFr.q {oth c : Nat} {σ s : am_HS} (h : PFr oth c σ s) : QFr oth σ s := ⟨h.1, fun o j k => h.2 o j (fun q => k (by unfold scP at q; unfold scQ; omega))⟩
theorem PFx.q {oth n : Nat} {tx : Nat → Int} {σ s : am_HS} (h : PFx oth n tx σ) (f : QFr oth σ s) (h28 : hI s 0 28 = (n : Int)) (hb : rgM s) : PFx oth n tx s := by
  obtain ⟨h1, h2, h3, h4, h5, h6, h7⟩ := h
  exact ⟨(by rw [f.1]; exact h1), hb, (f.2 0 43 (by unfold scQ; omega)).trans h3, h28, fun j => (f.2 16 j (by unfold scQ; omega)).trans (h5 j), h6, h7⟩
/-- rules that stand in a book, their names not tied -/
def RuK (oth n : Nat) (tx : Nat → Int) (acc : List RU) (cf : Nat → Nat) (s : am_HS) : Prop := ∀ k a, acc[k]? = some a → hI s 24 (12 * oth + k) = a.1 ∧ hI s 25 (12 * oth + k) = ((1600 * oth + cf k : Nat) : Int) ∧ cf k < cf (k + 1) ∧ NdP (tdM s) 27 (1600 * oth + cf k) (1600 * oth + cf (k + 1)) a.2.1 ∧ NmP (tdM s) (tkT tx n) (1600 * oth + cf k) (1600 * oth + cf (k + 1)) a.2.2.1 a.2.2.2
/-- whether a - was read -/
def LsR (T : Nat → Int × Int) (acc : List RU) : Prop := ∃ a ∈ acc, ∃ l, a.2.2.1 ≤ l ∧ l < a.2.2.2 ∧ T l = (3, 45)
def RuI (oth n : Nat) (tx : Nat → Int) (acc : List RU) (cf : Nat → Nat) (s : am_HS) : Prop := RuK oth n tx acc cf s ∧ acc.length ≤ 12 ∧ hI s 23 oth = (acc.length : Int) ∧ cf 0 = 0 ∧ (∀ k, k < acc.length → cf k < cf (k + 1)) ∧ (0 < acc.length → ∀ k, k ≤ acc.length → hI s 26 (13 * oth + k) = (cf k : Int)) ∧ (hI s 27 oth = 1 ↔ LsR (tkT tx n) acc)
theorem RuI_up {oth n : Nat} {tx : Nat → Int} {acc : List RU} {cf : Nat → Nat} {s u : am_HS} (h : RuK oth n tx acc cf s) (hcm : ∀ k, k < acc.length → cf (k + 1) ≤ cf acc.length) (he : ∀ o j, 17 ≤ o → o ≤ 22 → 1600 * oth ≤ j → j < 1600 * oth + cf acc.length → hI u o j = hI s o j) (h24 : ∀ k, k < acc.length → hI u 24 (12 * oth + k) = hI s 24 (12 * oth + k) ∧ hI u 25 (12 * oth + k) = hI s 25 (12 * oth + k)) : RuK oth n tx acc cf u := by
  intro k a ha
  have hl := gl_lt ha
  obtain ⟨g1, g2, g3, g4, g5⟩ := h k a ha
  have := hcm k hl
  have e := h24 k hl
  refine ⟨e.1.trans g1, e.2.trans g2, g3, ?_, ?_⟩
  · exact NdP_congr (t := tdM s) (fun j j1 j2 => ⟨he 17 j (by omega) (by omega) (by omega) (by omega), he 18 j (by omega) (by omega) (by omega) (by omega), he 19 j (by omega) (by omega) (by omega) (by omega)⟩) (fun j j1 j2 => ⟨he 20 j (by omega) (by omega) (by omega) (by omega), he 22 j (by omega) (by omega) (by omega) (by omega)⟩) g4
  · exact NmP.congr (t := tdM s) g5 (fun j j1 j2 => ⟨he 17 j (by omega) (by omega) (by omega) (by omega), he 18 j (by omega) (by omega) (by omega) (by omega)⟩)
theorem cf_mono {cf : Nat → Nat} {r : Nat} (h : ∀ k, k < r → cf k < cf (k + 1)) : ∀ k, k < r → cf (k + 1) ≤ cf r := by
  intro k hk
  induction r with
  | zero => omega
  | succ r ih =>
    rcases Nat.lt_or_ge k r with q | q
    · have := ih (fun j hj => h j (by omega)) q
      have := h r (by omega)
      omega
    · have : k = r := by omega
      subst this
      exact Nat.le_refl _
def PaQ (oth n : Nat) (tx : Nat → Int) (σ : am_HS) (res : Nat ⊕ List RU) (z : Int) (s : am_HS) : Prop := QFr oth σ s ∧ rgM s ∧ match res with
  | .inl g => z = 0 ∧ hI s 0 29 = (plT tx n g : Int)
  | .inr acc => z = 1 ∧ 0 < acc.length ∧ ∃ cf, RuI oth n tx acc cf s ∧ cf acc.length ≤ 1600
theorem rg_ff {o : Nat} (h : o = 0 ∨ (17 ≤ o ∧ o ≤ 21) ∨ (23 ≤ o ∧ o ≤ 26)) {x : Int} (hx : rI x) : bl o ≤ x ∧ x ≤ bh o := by
  obtain ⟨h1, h2⟩ := hx
  have e : o = 0 ∨ o = 17 ∨ o = 18 ∨ o = 19 ∨ o = 20 ∨ o = 21 ∨ o = 23 ∨ o = 24 ∨ o = 25 ∨ o = 26 := by omega
  rcases e with rfl | rfl | rfl | rfl | rfl | rfl | rfl | rfl | rfl | rfl <;> exact ⟨h1, h2⟩

theorem parse_bad {oth n d : Nat} {tx : Nat → Int} {σ : am_HS} (hD : 40 ≤ d) (s : am_HS) (g : Nat) (more : Int) (hm : more = 0 ∨ more = 1) (o3 o4 : Option am_V) (fr : QFr oth σ s) (hb : rgM s) (h29 : hI s 0 29 = (plT tx n g : Int)) : am_Go lm d 7 5 2 cX7_parses 46 [some (vR (some 0)), some (vI (n : Int)), some (vI more), o3, o4] [] s (qI fun z u => PaQ oth n tx σ (.inl g) z u) := by
  refine g_iload_n dX7_parses_46 rfl ?_
  refine g_if_eq (tgt := 241) dX7_parses_47 (by decide) (fun c47 => ?_) (fun c47 => ?_)
  · refine g_aload_n dX7_parses_241 rfl ?_
    refine g_callvI dX7_parses_242 tm_7_193 rfl ⟨rfl, rfl⟩ rfl (Nat.le_of_ble_eq_true rfl) (cm_isFine (by omega) _) (fun z242 s242 h242 => ?_)
    obtain ⟨h242, e242⟩ := h242
    obtain rfl := e242.symm
    refine g_ireturn dX7_parses_245 (Or.inr ⟨rfl, by omega⟩) ⟨_, rfl, ?_⟩
    exact ⟨fr, hb, by omega, h29⟩
  · refine g_aload_n dX7_parses_50 rfl ?_
    refine g_callvI dX7_parses_51 tm_7_193 rfl ⟨rfl, rfl⟩ rfl (Nat.le_of_ble_eq_true rfl) (cm_isFine (by omega) _) (fun z51 s51 h51 => ?_)
    obtain ⟨h51, e51⟩ := h51
    obtain rfl := e51.symm
    refine g_if_eq (tgt := 241) dX7_parses_54 (by decide) (fun c54 => ?_) (fun c54 => ?_)
    · refine g_aload_n dX7_parses_241 rfl ?_
      refine g_callvI dX7_parses_242 tm_7_193 rfl ⟨rfl, rfl⟩ rfl (Nat.le_of_ble_eq_true rfl) (cm_isFine (by omega) _) (fun z242 s242 h242 => ?_)
      obtain ⟨h242, e242⟩ := h242
      obtain rfl := e242.symm
      refine g_ireturn dX7_parses_245 (Or.inr ⟨rfl, by omega⟩) ⟨_, rfl, ?_⟩
      exact ⟨fr, hb, by omega, h29⟩
    · exfalso; omega
theorem parse_bad3 {oth n d : Nat} {tx : Nat → Int} {σ : am_HS} (hD : 40 ≤ d) (s : am_HS) (r g : Nat) (hr : r < 12) (o4 : Option am_V) (hf : s.2.2 = mH) (ho : hI s 0 43 = (oth : Int)) (ho2 : oth < 2) (h23 : hI s 23 oth = (r : Int)) (fr : QFr oth σ s) (hb : rgM s) (h29 : hI s 0 29 = (plT tx n g : Int)) : am_Go lm d 7 5 2 cX7_parses 192 [some (vR (some 0)), some (vI (n : Int)), some (vI 1), some (vI (r : Int)), o4] [] s (qI fun z u => PaQ oth n tx σ (.inl g) z u) := by
  refine g_aload_n dX7_parses_192 rfl ?_
  refine g_getA dX7_parses_193 tf_7_77 rfl rfl (mrf hf rfl) ?_
  refine g_aload_n dX7_parses_196 rfl ?_
  refine g_getI dX7_parses_197 tf_7_207 rfl rfl ?_
  rw [ho]
  refine g_dup2_11 dX7_parses_200 rfl rfl ?_
  refine g_ialdN (oth) dX7_parses_201 rfl (by omega) (by omega) ?_
  refine g_iconst dX7_parses_202 ⟨by decide, by decide⟩ ?_
  refine g_iadd dX7_parses_203 rfl ⟨by omega, by omega⟩ ?_
  refine g_iastN (oth) dX7_parses_204 rfl (by omega) (by omega) ?_
  refine g_aload_n dX7_parses_205 rfl ?_
  refine g_getA dX7_parses_206 tf_7_86 rfl rfl (mrf hf rfl) ?_
  refine g_bipush dX7_parses_209 (by decide) ?_
  refine g_aload_n dX7_parses_211 rfl ?_
  refine g_getI dX7_parses_212 tf_7_207 rfl rfl ?_
  rw [hI_uI_n (by omega), ho]
  refine g_imul dX7_parses_215 rfl ⟨by omega, by omega⟩ ?_
  refine g_iload_n dX7_parses_216 rfl ?_
  refine g_iadd dX7_parses_217 rfl ⟨by omega, by omega⟩ ?_
  refine g_iconst dX7_parses_218 ⟨by decide, by decide⟩ ?_
  refine g_iadd dX7_parses_219 rfl ⟨by omega, by omega⟩ ?_
  refine g_aload_n dX7_parses_220 rfl ?_
  refine g_getI dX7_parses_221 tf_7_210 rfl rfl ?_
  refine g_iastN (13 * oth + r + 1) dX7_parses_224 rfl (by omega) (by omega) ?_
  refine g_aload_n dX7_parses_225 rfl ?_
  refine g_getI dX7_parses_226 tf_7_181 rfl rfl ?_
  refine g_if_eq (tgt := 236) dX7_parses_229 (by decide) (fun c229 => ?_) (fun c229 => ?_)
  · refine g_iconst dX7_parses_236 ⟨by decide, by decide⟩ ?_
    refine g_istore_n dX7_parses_237 (by decide) rfl ?_
    refine g_goto (tgt := 46) dX7_parses_238 (by decide) ?_
    exact parse_bad hD _ g _ (by omega) _ _ ((fr.u (by unfold scQ; omega)).u (by unfold scQ; omega)) ((hb.u (rg_ff (by omega) ⟨by omega, by omega⟩)).u (rg_ff (by omega) (hI_r _ _ _))) (by rw [hI_uI_n (by omega), hI_uI_n (by omega)]; exact h29)
  · refine g_iconst dX7_parses_232 ⟨by decide, by decide⟩ ?_
    refine g_goto (tgt := 237) dX7_parses_233 (by decide) ?_
    refine g_istore_n dX7_parses_237 (by decide) rfl ?_
    refine g_goto (tgt := 46) dX7_parses_238 (by decide) ?_
    exact parse_bad hD _ g _ (by omega) _ _ ((fr.u (by unfold scQ; omega)).u (by unfold scQ; omega)) ((hb.u (rg_ff (by omega) ⟨by omega, by omega⟩)).u (rg_ff (by omega) (hI_r _ _ _))) (by rw [hI_uI_n (by omega), hI_uI_n (by omega)]; exact h29)
theorem parse_bad2 {oth n d : Nat} {tx : Nat → Int} {σ : am_HS} (hD : 40 ≤ d) (s : am_HS) (r g : Nat) (hr : r < 12) (o4 : Option am_V) (hf : s.2.2 = mH) (ho : hI s 0 43 = (oth : Int)) (ho2 : oth < 2) (h23 : hI s 23 oth = (r : Int)) (fr : QFr oth σ s) (hb : rgM s) (h29 : hI s 0 29 = (plT tx n g : Int)) : am_Go lm d 7 5 2 cX7_parses 186 [some (vR (some 0)), some (vI (n : Int)), some (vI 1), some (vI (r : Int)), o4] [] s (qI fun z u => PaQ oth n tx σ (.inl g) z u) := by
  have h290 : 0 ≤ hI s 0 29 := by omega
  refine g_aload_n dX7_parses_186 rfl ?_
  refine g_bipush dX7_parses_187 (by decide) ?_
  refine g_callvV dX7_parses_189 tm_7_229 rfl ⟨rfl, rfl⟩ rfl (Nat.le_of_ble_eq_true rfl) (cm_mustN (by omega) s h290 _) (fun s189 h189 => ?_)
  obtain rfl := h189
  exact parse_bad3 hD _ r g hr o4 hf ho ho2 h23 fr hb h29
