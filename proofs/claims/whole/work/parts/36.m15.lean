/-! THE REFERENCE: 'range' -/
/-- the numbers below k with P, in order -/
def rgL (P : Nat → Prop) : Nat → List Nat → Prop
  | 0, L => L = []
  | k + 1, L => (P k ∧ ∃ L2, rgL P k L2 ∧ L = L2 ++ [k]) ∨ (¬ P k ∧ rgL P k L)
theorem rgL_b {P : Nat → Prop} : ∀ {k : Nat} {L : List Nat}, rgL P k L → L.length ≤ k ∧ ∀ w ∈ L, w < k
  | 0, L, h => by
    have h : L = [] := h
    subst h
    exact ⟨Nat.le_refl _, fun w hw => by cases hw⟩
  | k + 1, L, h => by
    rcases h with ⟨-, L2, h1, rfl⟩ | ⟨-, h1⟩
    · obtain ⟨a, b⟩ := rgL_b h1
      refine ⟨by rw [List.length_append]; simp; omega, fun w hw => ?_⟩
      rcases List.mem_append.mp hw with h | h
      · have := b w h
        omega
      · have : w = k := by simpa using h
        omega
    · obtain ⟨a, b⟩ := rgL_b h1
      exact ⟨by omega, fun w hw => by have := b w hw; omega⟩
def mxK (σ : am_HS) (L : List Nat) (k : Nat) : Nat → Int := fun a => if a ∈ L.take k then hI σ 4 a else -1
theorem mxK_ok {σ : am_HS} (hb : rgM σ) (L : List Nat) (k w : Nat) : -1 ≤ mxK σ L k w ∧ mxK σ L k w ≤ 20 := by
  have h : 0 ≤ hI σ 4 w ∧ hI σ 4 w ≤ 20 := hb 4 w
  unfold mxK
  split <;> omega
theorem mxK_0 (σ : am_HS) (L : List Nat) : mxK σ L 0 = fun _ => -1 := by
  funext a
  unfold mxK
  simp
theorem mxK_s (σ : am_HS) {L : List Nat} {k : Nat} (hk : k < L.length) : (fun a => if a = L.getD k 0 then hI σ 4 (L.getD k 0) else mxK σ L k a) = mxK σ L (k + 1) := by
  funext a
  have e : L.take (k + 1) = L.take k ++ [L.getD k 0] := by
    rw [List.take_succ, List.getElem?_eq_getElem hk, List.getD_eq_getElem?_getD, List.getElem?_eq_getElem hk]
    rfl
  unfold mxK
  rw [e]
  by_cases q : a = L.getD k 0
  · rw [if_pos q, if_pos (by rw [q]; simp), q]
  · rw [if_neg q]
    by_cases q2 : a ∈ L.take k
    · rw [if_pos q2, if_pos (by simp [q2])]
    · rw [if_neg q2, if_neg (fun h => by rcases List.mem_append.mp h with h | h; exact q2 h; exact q (by simpa using h))]
theorem TS.base {σ s u : am_HS} {p : Nat} {tk : Nat → Int} (f : FrM σ s) (h : TS s p tk u) : TS σ p tk u := ⟨f.tr h.1, h.2⟩
/-- the end of 'range': the answer of what was found -/
def rgE (σ : am_HS) (a : Acc) (what z : Int) (s : am_HS) : Prop := match a with
  | none => z = 2000000003 ∧ FrM (uI σ 1 3 (hI σ 1 3 + 1)) s
  | some b => z = (if what = 0 then b.1.1 else if what = 1 then b.1.2 else if what = 2 then b.2.1 else b.2.2) ∧ FrM σ s
/-- what was found -/
def rgS (σ : am_HS) (f : (Nat → Int) → Vl) (N : Nat) (L : List Nat) : Acc := if hI σ 27 N = 0 then accS (accS none (f (mxK σ L 0))) (f (mxK σ L L.length)) else goF (moM σ) f L (mxK σ L 0) none

theorem cm_rangeE {d : Nat} (hD : 782 ≤ d) (σ : am_HS) (hrf : ∀ k, k < 8 → 0 ≤ hI σ 1 k ∧ hI σ 1 k ≤ 100000) (p r : Nat) {what : Int} (hwh : 0 ≤ what ∧ what < 4) (a : Acc) (ha : accO a) (u : am_HS) (fr : FrM σ u) (hf : u.2.2 = mH) (hA : Ac a u) (o4 : Option am_V) : am_Go lm d 7 5 1 cX7_range 239 [some (vR (some 0)), some (vI (p : Int)), some (vI (r : Int)), some (vI what), o4] [] u (qI fun z s => rgE σ a what z s) := by
  rcases a with _ | b
  · have h60 : hI u 0 60 = 0 := hA
    refine g_aload_n dX7_range_239 rfl ?_
    refine g_getZ dX7_range_240 tf_7_394 rfl rfl ?_
    refine g_if_ne (tgt := 253) dX7_range_243 (by decide) (fun c243 => ?_) (fun c243 => ?_)
    · exfalso; omega
    · refine g_aload_n dX7_range_246 rfl ?_
      refine g_bipush dX7_range_247 (by decide) ?_
      refine g_callvI dX7_range_249 tm_7_391 rfl ⟨rfl, rfl⟩ rfl (Nat.le_of_ble_eq_true rfl) (cm_refuseFar (by omega) u hf _ ⟨by omega, by omega⟩ (fun k hk => by rw [(fr).a (by decide) (by decide)]; exact hrf k hk)) (fun z249 s249 h249 => ?_)
      obtain ⟨rfl, rfl⟩ := h249
      refine g_ireturn dX7_range_252 (Or.inl rfl) ⟨_, rfl, ?_⟩
      exact ⟨rfl, by rw [fr.a (o := 1) (by decide) (by decide)]; exact FrM_put fr 1 3 _⟩
  · obtain ⟨⟨a1, a2, a3, a4⟩, a5, a6, a7, a8⟩ := id ha
    obtain ⟨h60, h61, h62, h63, h64⟩ := id hA
    refine g_aload_n dX7_range_239 rfl ?_
    refine g_getZ dX7_range_240 tf_7_394 rfl rfl ?_
    refine g_if_ne (tgt := 253) dX7_range_243 (by decide) (fun c243 => ?_) (fun c243 => ?_)
    · refine g_iload_n dX7_range_253 rfl ?_
      refine g_if_ne (tgt := 264) dX7_range_254 (by decide) (fun c254 => ?_) (fun c254 => ?_)
      · refine g_iload_n dX7_range_264 rfl ?_
        refine g_iconst dX7_range_265 ⟨by decide, by decide⟩ ?_
        refine g_icmp_ne (tgt := 276) dX7_range_266 (by decide) (fun c266 => ?_) (fun c266 => ?_)
        · refine g_iload_n dX7_range_276 rfl ?_
          refine g_iconst dX7_range_277 ⟨by decide, by decide⟩ ?_
          refine g_icmp_ne (tgt := 288) dX7_range_278 (by decide) (fun c278 => ?_) (fun c278 => ?_)
          · refine g_aload_n dX7_range_288 rfl ?_
            refine g_getL dX7_range_289 tf_7_404 rfl rfl ?_
            refine g_l2i dX7_range_292 ⟨by omega, by omega⟩ ?_
            refine g_ireturn dX7_range_293 (Or.inl rfl) ⟨_, rfl, ?_⟩
            refine ⟨?_, fr⟩
            first
              | (rw [if_pos (by omega)]; exact h61)
              | (rw [if_neg (by omega), if_pos (by omega)]; exact h62)
              | (rw [if_neg (by omega), if_neg (by omega), if_pos (by omega)]; exact h63)
              | (rw [if_neg (by omega), if_neg (by omega), if_neg (by omega)]; exact h64)
          · refine g_aload_n dX7_range_281 rfl ?_
            refine g_getL dX7_range_282 tf_7_407 rfl rfl ?_
            refine g_goto (tgt := 292) dX7_range_285 (by decide) ?_
            refine g_l2i dX7_range_292 ⟨by omega, by omega⟩ ?_
            refine g_ireturn dX7_range_293 (Or.inl rfl) ⟨_, rfl, ?_⟩
            refine ⟨?_, fr⟩
            first
              | (rw [if_pos (by omega)]; exact h61)
              | (rw [if_neg (by omega), if_pos (by omega)]; exact h62)
              | (rw [if_neg (by omega), if_neg (by omega), if_pos (by omega)]; exact h63)
              | (rw [if_neg (by omega), if_neg (by omega), if_neg (by omega)]; exact h64)
        · refine g_aload_n dX7_range_269 rfl ?_
          refine g_getL dX7_range_270 tf_7_398 rfl rfl ?_
          refine g_goto (tgt := 292) dX7_range_273 (by decide) ?_
          refine g_l2i dX7_range_292 ⟨by omega, by omega⟩ ?_
          refine g_ireturn dX7_range_293 (Or.inl rfl) ⟨_, rfl, ?_⟩
          refine ⟨?_, fr⟩
          first
            | (rw [if_pos (by omega)]; exact h61)
            | (rw [if_neg (by omega), if_pos (by omega)]; exact h62)
            | (rw [if_neg (by omega), if_neg (by omega), if_pos (by omega)]; exact h63)
            | (rw [if_neg (by omega), if_neg (by omega), if_neg (by omega)]; exact h64)
      · refine g_aload_n dX7_range_257 rfl ?_
        refine g_getL dX7_range_258 tf_7_401 rfl rfl ?_
        refine g_goto (tgt := 292) dX7_range_261 (by decide) ?_
        refine g_l2i dX7_range_292 ⟨by omega, by omega⟩ ?_
        refine g_ireturn dX7_range_293 (Or.inl rfl) ⟨_, rfl, ?_⟩
        refine ⟨?_, fr⟩
        first
          | (rw [if_pos (by omega)]; exact h61)
          | (rw [if_neg (by omega), if_pos (by omega)]; exact h62)
          | (rw [if_neg (by omega), if_neg (by omega), if_pos (by omega)]; exact h63)
          | (rw [if_neg (by omega), if_neg (by omega), if_neg (by omega)]; exact h64)
    · exfalso; omega
theorem cm_rangeT {d : Nat} (hD : 783 ≤ d) (σ : am_HS) (hb : rgM σ) {N n : Nat} {lo hi ρ : Nat → Nat} {ev : Nat → Den} {td : TD} (hR : BK N n lo hi ρ ev td σ) {rv : Nat → (Nat → Int) → Nat → Vl} (hV : ∀ (p : Nat) (tk : Nat → Int), p < 6 → (∀ w, -1 ≤ tk w ∧ tk w ≤ 20) → RV n ev (fun w => mtM σ p w (tk w)) (rv p tk)) {p r : Nat} (hp : p < 6) (hr : r < n) (L : List Nat) (hLw : ∀ w ∈ L, w < 10) (hLn : L.length ≤ 10) (hrf : ∀ k, k < 8 → 0 ≤ hI σ 1 k ∧ hI σ 1 k ≤ 100000) {what : Int} (hwh : 0 ≤ what ∧ what < 5) (s : am_HS) (fr : FrM σ s) (hf : s.2.2 = mH) (hL0 : OpL L s) (o4 : Option am_V) : am_Go lm d 7 5 1 cX7_range 119 [some (vR (some 0)), some (vI (p : Int)), some (vI (r : Int)), some (vI what), o4] [] s (qI fun z s => (what = 4 ∧ z = (L.length : Int) ∧ FrM σ s) ∨ (what ≠ 4 ∧ hI σ 27 N ≠ 0 ∧ 3 < L.length ∧ z = 2000000003 ∧ FrM (uI σ 1 3 (hI σ 1 3 + 1)) s) ∨ (what ≠ 4 ∧ ¬ (hI σ 27 N ≠ 0 ∧ 3 < L.length) ∧ rgE σ (rgS σ (fun tk => rv p tk r) N L) what z s)) := by
  have hnow : hI s 0 42 = (N : Int) := hR.1.2.2.1 ▸ fr.2 0 42 (Or.inr ⟨rfl, Or.inr (Or.inr rfl)⟩)
  have hN2 : N < 2 := hR.1.2.1
  have h27 : hI s 27 N = hI σ 27 N := fr.a (by decide) (by decide)
  have hop := hL0.1
  have hT0 : TS σ p (mxK σ L 0) (bg s (p : Int)) := by rw [mxK_0]; exact TS.base fr (TS_bg hf hp)
  have hL1 : OpL L (bg s (p : Int)) := ((hL0.uI (by omega)).fill (by omega)).fill (by omega)
  have hA1 : Ac none (uI (bg s (p : Int)) 0 60 0) := hI_uI_e ⟨by omega, by omega⟩
  have hT1 := hT0.u60 (x := 0)
  have hL2 : OpL L (uI (bg s (p : Int)) 0 60 0) := hL1.uI (by omega)
  have hok : ∀ k, vok (rv p (mxK σ L k) r) := fun k => (hV p _ hp (mxK_ok hb L k)).2.2 r
  have loop : ¬ hI σ 27 N ≠ 0 → what ≠ 4 → ∀ (M k : Nat), k + M = L.length → ∀ (u : am_HS), TS σ p (mxK σ L k) u → OpL L u → Ac (accS none (rv p (mxK σ L 0) r)) u → am_Go lm d 7 5 1 cX7_range 195 [some (vR (some 0)), some (vI (p : Int)), some (vI (r : Int)), some (vI what), some (vI (k : Int))] [] u (qI fun z s => (what = 4 ∧ z = (L.length : Int) ∧ FrM σ s) ∨ (what ≠ 4 ∧ hI σ 27 N ≠ 0 ∧ 3 < L.length ∧ z = 2000000003 ∧ FrM (uI σ 1 3 (hI σ 1 3 + 1)) s) ∨ (what ≠ 4 ∧ ¬ (hI σ 27 N ≠ 0 ∧ 3 < L.length) ∧ rgE σ (rgS σ (fun tk => rv p tk r) N L) what z s)) := by
    intro h0 hw4 M
    induction M with
    | zero =>
      intro k hk u hT hLu hA
      have hkl : k = L.length := by omega
      have hf := hT.2.1
      refine g_iload dX7_range_195 rfl ?_
      refine g_aload_n dX7_range_197 rfl ?_
      refine g_getI dX7_range_198 tf_7_410 rfl rfl ?_
      rw [hLu.1]
      refine g_icmp_ge (tgt := 234) dX7_range_201 (by decide) (fun c201 => ?_) (fun c201 => ?_)
      · refine g_aload_n dX7_range_234 rfl ?_
        refine g_iload_n dX7_range_235 rfl ?_
        refine g_callvV dX7_range_236 tm_7_413 rfl ⟨rfl, rfl⟩ rfl (Nat.le_of_ble_eq_true rfl) (cm_looks (by omega) σ hb hR hV hp hr (mxK σ L L.length) (mxK_ok hb L _) L _ (accO_S (a := none) True.intro (hok 0)) u (by rw [hkl] at hT; exact hT) hLu hA) (fun s236 h236 => ?_)
        obtain ⟨hT5, -, hA5⟩ := h236
        refine am_Go.mono (cm_rangeE (by omega) σ hrf p r ⟨by omega, by omega⟩ (accS (accS none (rv p (mxK σ L 0) r)) (rv p (mxK σ L L.length) r)) (accO_S (accO_S (a := none) True.intro (hok 0)) (hok L.length)) s236 hT5.1 hT5.2.1 hA5 _) (fun z1 s1 h => ?_)
        obtain ⟨z, rfl, h⟩ := h
        refine ⟨z, rfl, Or.inr (Or.inr ⟨by omega, by omega, ?_⟩)⟩
        have e : rgS σ (fun tk => rv p tk r) N L = (accS (accS none (rv p (mxK σ L 0) r)) (rv p (mxK σ L L.length) r)) := by unfold rgS; rw [if_pos (by omega)]
        rw [e]
        exact h
      · exfalso; omega
    | succ M ih =>
      intro k hk u hT hLu hA
      have hkl : k < L.length := by omega
      have hf := hT.2.1
      have hw : L.getD k 0 < 10 := hLw _ (by rw [List.getD_eq_getElem?_getD, List.getElem?_eq_getElem hkl]; exact List.getElem_mem hkl)
      have hoi : hI u 40 k = ((L.getD k 0 : Nat) : Int) := hLu.2 k hkl
      have hm4 : hI u 4 (L.getD k 0) = hI σ 4 (L.getD k 0) := hT.1.a (by decide) (by decide)
      have hr4 : 0 ≤ hI σ 4 (L.getD k 0) ∧ hI σ 4 (L.getD k 0) ≤ 20 := hb 4 _
      refine g_iload dX7_range_195 rfl ?_
      refine g_aload_n dX7_range_197 rfl ?_
      refine g_getI dX7_range_198 tf_7_410 rfl rfl ?_
      rw [hLu.1]
      refine g_icmp_ge (tgt := 234) dX7_range_201 (by decide) (fun c201 => ?_) (fun c201 => ?_)
      · exfalso; omega
      · refine g_aload_n dX7_range_204 rfl ?_
        refine g_getA dX7_range_205 tf_7_105 rfl rfl (mrf hf rfl) ?_
        refine g_aload_n dX7_range_208 rfl ?_
        refine g_getA dX7_range_209 tf_7_129 rfl rfl (mrf hf rfl) ?_
        refine g_iload dX7_range_212 rfl ?_
        refine g_ialdN (k) dX7_range_214 rfl (by omega) (by omega) ?_
        rw [hoi]
        refine g_aload_n dX7_range_215 rfl ?_
        refine g_getA dX7_range_216 tf_7_19 rfl rfl (mrf hf rfl) ?_
        refine g_aload_n dX7_range_219 rfl ?_
        refine g_getA dX7_range_220 tf_7_129 rfl rfl (mrf hf rfl) ?_
        refine g_iload dX7_range_223 rfl ?_
        refine g_ialdN (k) dX7_range_225 rfl (by omega) (by omega) ?_
        rw [hoi]
        refine g_ialdN (L.getD k 0) dX7_range_226 rfl (by omega) (by omega) ?_
        rw [hm4]
        refine g_iastN (L.getD k 0) dX7_range_227 rfl (by omega) (by omega) ?_
        refine g_iinc dX7_range_228 (by decide) rfl ⟨by omega, by omega⟩ rfl rfl ?_
        refine g_goto (tgt := 195) dX7_range_231 (by decide) ?_
        have hT6 := hT.put (w := L.getD k 0) (v := hI σ 4 (L.getD k 0)) ⟨by omega, by omega⟩
        rw [mxK_s σ hkl] at hT6
        exact ih (k + 1) (by omega) _ hT6 (hLu.uI (by omega)) (hA.uI (by omega))
  refine g_iload_n dX7_range_119 rfl ?_
  refine g_iconst dX7_range_120 ⟨by decide, by decide⟩ ?_
  refine g_icmp_ne (tgt := 129) dX7_range_121 (by decide) (fun c121 => ?_) (fun c121 => ?_)
  · refine g_aload_n dX7_range_129 rfl ?_
    refine g_getA dX7_range_130 tf_7_89 rfl rfl (mrf hf rfl) ?_
    refine g_aload_n dX7_range_133 rfl ?_
    refine g_getI dX7_range_134 tf_7_148 rfl rfl ?_
    rw [hnow]
    refine g_zaldN (N) dX7_range_137 rfl (by omega) (by omega) ?_
    rw [h27]
    refine g_if_eq (tgt := 156) dX7_range_138 (by decide) (fun c138 => ?_) (fun c138 => ?_)
    · refine g_aload_n dX7_range_156 rfl ?_
      refine g_iload_n dX7_range_157 rfl ?_
      refine g_callvV dX7_range_158 tm_7_246 rfl ⟨rfl, rfl⟩ rfl (Nat.le_of_ble_eq_true rfl) (cm_begins (by omega) _ hf _) (fun s158 h158 => ?_)
      obtain rfl := h158
      change am_Go _ _ _ _ _ _ _ _ _ (bg s (p : Int)) _
      refine g_aload_n dX7_range_161 rfl ?_
      refine g_iconst dX7_range_162 ⟨by decide, by decide⟩ ?_
      refine g_putZ dX7_range_163 tf_7_394 rfl rfl rfl (by omega) ?_
      refine g_aload_n dX7_range_166 rfl ?_
      refine g_getA dX7_range_167 tf_7_89 rfl rfl (mrf hf rfl) ?_
      refine g_aload_n dX7_range_170 rfl ?_
      refine g_getI dX7_range_171 tf_7_148 rfl rfl ?_
      rw [show hI (uI (bg s (p : Int)) 0 60 0) 0 42 = (N : Int) from (hT1.1.2 0 42 (Or.inr ⟨rfl, Or.inr (Or.inr rfl)⟩)).trans hR.1.2.2.1]
      refine g_zaldN (N) dX7_range_174 rfl (by omega) (by omega) ?_
      rw [show hI (uI (bg s (p : Int)) 0 60 0) 27 N = hI σ 27 N from hT1.1.a (by decide) (by decide)]
      refine g_if_eq (tgt := 187) dX7_range_175 (by decide) (fun c175 => ?_) (fun c175 => ?_)
      · refine g_aload_n dX7_range_187 rfl ?_
        refine g_iload_n dX7_range_188 rfl ?_
        refine g_callvV dX7_range_189 tm_7_413 rfl ⟨rfl, rfl⟩ rfl (Nat.le_of_ble_eq_true rfl) (cm_looks (by omega) σ hb hR hV hp hr (mxK σ L 0) (mxK_ok hb L 0) L none True.intro _ hT1 hL2 hA1) (fun s189 h189 => ?_)
        obtain ⟨hT5, hL5, hA5⟩ := h189
        refine g_iconst dX7_range_192 ⟨by decide, by decide⟩ ?_
        refine g_istore dX7_range_193 (by decide) rfl ?_
        exact loop (by omega) (by omega) L.length 0 (by omega) s189 hT5 hL5 hA5
      · refine g_aload_n dX7_range_178 rfl ?_
        refine g_iload_n dX7_range_179 rfl ?_
        refine g_iconst dX7_range_180 ⟨by decide, by decide⟩ ?_
        refine g_callvV dX7_range_181 tm_7_416 rfl ⟨rfl, rfl⟩ rfl (Nat.le_of_ble_eq_true rfl) (cm_goes σ hb hR hV hp hr L hLw hLn L 0 (Nat.zero_le _) rfl d (by omega) _ (mxK_ok hb L 0) none True.intro _ hT1 hL2 hA1) (fun s181 h181 => ?_)
        obtain ⟨tk2, -, -, hT5, -, hA5⟩ := h181
        refine g_goto (tgt := 239) dX7_range_184 (by decide) ?_
        refine am_Go.mono (cm_rangeE (by omega) σ hrf p r ⟨by omega, by omega⟩ (goF (moM σ) (fun tk => rv p tk r) L (mxK σ L 0) none) (goF_ok (fun x _ => by have h : 0 ≤ hI σ 4 x ∧ hI σ 4 x ≤ 20 := hb 4 x; unfold moM; omega) (fun tk ht => (hV p tk hp ht).2.2 r) (mxK_ok hb L 0) True.intro) s181 hT5.1 hT5.2.1 hA5 _) (fun z1 s1 h => ?_)
        obtain ⟨z, rfl, h⟩ := h
        refine ⟨z, rfl, Or.inr (Or.inr ⟨by omega, by omega, ?_⟩)⟩
        have e : rgS σ (fun tk => rv p tk r) N L = (goF (moM σ) (fun tk => rv p tk r) L (mxK σ L 0) none) := by unfold rgS; rw [if_neg (by omega)]
        rw [e]
        exact h
    · refine g_aload_n dX7_range_141 rfl ?_
      refine g_getI dX7_range_142 tf_7_410 rfl rfl ?_
      refine g_iconst dX7_range_145 ⟨by decide, by decide⟩ ?_
      rw [hop]
      refine g_icmp_le (tgt := 156) dX7_range_146 (by decide) (fun c146 => ?_) (fun c146 => ?_)
      · refine g_aload_n dX7_range_156 rfl ?_
        refine g_iload_n dX7_range_157 rfl ?_
        refine g_callvV dX7_range_158 tm_7_246 rfl ⟨rfl, rfl⟩ rfl (Nat.le_of_ble_eq_true rfl) (cm_begins (by omega) _ hf _) (fun s158 h158 => ?_)
        obtain rfl := h158
        change am_Go _ _ _ _ _ _ _ _ _ (bg s (p : Int)) _
        refine g_aload_n dX7_range_161 rfl ?_
        refine g_iconst dX7_range_162 ⟨by decide, by decide⟩ ?_
        refine g_putZ dX7_range_163 tf_7_394 rfl rfl rfl (by omega) ?_
        refine g_aload_n dX7_range_166 rfl ?_
        refine g_getA dX7_range_167 tf_7_89 rfl rfl (mrf hf rfl) ?_
        refine g_aload_n dX7_range_170 rfl ?_
        refine g_getI dX7_range_171 tf_7_148 rfl rfl ?_
        rw [show hI (uI (bg s (p : Int)) 0 60 0) 0 42 = (N : Int) from (hT1.1.2 0 42 (Or.inr ⟨rfl, Or.inr (Or.inr rfl)⟩)).trans hR.1.2.2.1]
        refine g_zaldN (N) dX7_range_174 rfl (by omega) (by omega) ?_
        rw [show hI (uI (bg s (p : Int)) 0 60 0) 27 N = hI σ 27 N from hT1.1.a (by decide) (by decide)]
        refine g_if_eq (tgt := 187) dX7_range_175 (by decide) (fun c175 => ?_) (fun c175 => ?_)
        · refine g_aload_n dX7_range_187 rfl ?_
          refine g_iload_n dX7_range_188 rfl ?_
          refine g_callvV dX7_range_189 tm_7_413 rfl ⟨rfl, rfl⟩ rfl (Nat.le_of_ble_eq_true rfl) (cm_looks (by omega) σ hb hR hV hp hr (mxK σ L 0) (mxK_ok hb L 0) L none True.intro _ hT1 hL2 hA1) (fun s189 h189 => ?_)
          obtain ⟨hT5, hL5, hA5⟩ := h189
          refine g_iconst dX7_range_192 ⟨by decide, by decide⟩ ?_
          refine g_istore dX7_range_193 (by decide) rfl ?_
          exact loop (by omega) (by omega) L.length 0 (by omega) s189 hT5 hL5 hA5
        · refine g_aload_n dX7_range_178 rfl ?_
          refine g_iload_n dX7_range_179 rfl ?_
          refine g_iconst dX7_range_180 ⟨by decide, by decide⟩ ?_
          refine g_callvV dX7_range_181 tm_7_416 rfl ⟨rfl, rfl⟩ rfl (Nat.le_of_ble_eq_true rfl) (cm_goes σ hb hR hV hp hr L hLw hLn L 0 (Nat.zero_le _) rfl d (by omega) _ (mxK_ok hb L 0) none True.intro _ hT1 hL2 hA1) (fun s181 h181 => ?_)
          obtain ⟨tk2, -, -, hT5, -, hA5⟩ := h181
          refine g_goto (tgt := 239) dX7_range_184 (by decide) ?_
          refine am_Go.mono (cm_rangeE (by omega) σ hrf p r ⟨by omega, by omega⟩ (goF (moM σ) (fun tk => rv p tk r) L (mxK σ L 0) none) (goF_ok (fun x _ => by have h : 0 ≤ hI σ 4 x ∧ hI σ 4 x ≤ 20 := hb 4 x; unfold moM; omega) (fun tk ht => (hV p tk hp ht).2.2 r) (mxK_ok hb L 0) True.intro) s181 hT5.1 hT5.2.1 hA5 _) (fun z1 s1 h => ?_)
          obtain ⟨z, rfl, h⟩ := h
          refine ⟨z, rfl, Or.inr (Or.inr ⟨by omega, by omega, ?_⟩)⟩
          have e : rgS σ (fun tk => rv p tk r) N L = (goF (moM σ) (fun tk => rv p tk r) L (mxK σ L 0) none) := by unfold rgS; rw [if_neg (by omega)]
          rw [e]
          exact h
      · refine g_aload_n dX7_range_149 rfl ?_
        refine g_bipush dX7_range_150 (by decide) ?_
        refine g_callvI dX7_range_152 tm_7_391 rfl ⟨rfl, rfl⟩ rfl (Nat.le_of_ble_eq_true rfl) (cm_refuseFar (by omega) s hf _ ⟨by omega, by omega⟩ (fun k hk => by rw [(fr).a (by decide) (by decide)]; exact hrf k hk)) (fun z152 s152 h152 => ?_)
        obtain ⟨rfl, rfl⟩ := h152
        refine g_ireturn dX7_range_155 (Or.inl rfl) ⟨_, rfl, ?_⟩
        exact Or.inr (Or.inl ⟨by omega, by omega, by omega, rfl, by rw [fr.a (o := 1) (by decide) (by decide)]; exact FrM_put fr 1 3 _⟩)
  · refine g_aload_n dX7_range_124 rfl ?_
    refine g_getI dX7_range_125 tf_7_410 rfl rfl ?_
    refine g_ireturn dX7_range_128 (Or.inl rfl) ⟨_, rfl, ?_⟩
    exact Or.inl ⟨by omega, hop, fr⟩
