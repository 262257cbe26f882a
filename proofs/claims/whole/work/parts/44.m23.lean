/-! THE REFERENCE: marking, text -/
def mgM (σ : am_HS) (w t : Nat) (v : Int) (c : Nat → Bool) : Nat → am_HS
  | 0 => σ
  | q + 1 => if c q = true then uI (uI (mgM σ w t v c q) 13 (3 * (10 * q + w) + t) v) 0 5 (hI (mgM σ w t v c q) 0 5 + 1) else mgM σ w t v c q
def cgM (σ : am_HS) (p w : Nat) : Nat → Bool := fun q => if hI σ 3 w = 1 then decide (0 < hI σ 10 (10 * q + w) ∧ hI σ 13 (3 * (10 * q + w)) < 0 ∧ hI σ 12 (3 * (10 * q + w)) = hI σ 12 (3 * (10 * p + w)) ∧ hI σ 11 (3 * (10 * q + w)) = hI σ 11 (3 * (10 * p + w))) else decide (q = p)
theorem mgM_s (σ : am_HS) (w t : Nat) (v : Int) (c : Nat → Bool) (q : Nat) : mgM σ w t v c (q + 1) = if c q = true then uI (uI (mgM σ w t v c q) 13 (3 * (10 * q + w) + t) v) 0 5 (hI (mgM σ w t v c q) 0 5 + 1) else mgM σ w t v c q := rfl
theorem mgM_f {σ : am_HS} {w t : Nat} {v : Int} {c : Nat → Bool} : ∀ q, (mgM σ w t v c q).2.2 = σ.2.2
  | 0 => rfl
  | q + 1 => by
    unfold mgM
    split
    · exact mgM_f q
    · exact mgM_f q
theorem mgM_o {σ : am_HS} {w t : Nat} {v : Int} {c : Nat → Bool} {o k : Nat} (h : ¬ (o = 0 ∧ k = 5) ∧ o ≠ 13) : ∀ q, hI (mgM σ w t v c q) o k = hI σ o k
  | 0 => rfl
  | q + 1 => by
    unfold mgM
    split
    · rw [hI_uI_n (by omega), hI_uI_n (by omega), mgM_o h q]
    · exact mgM_o h q
theorem mgM_13 {σ : am_HS} {w t : Nat} {v : Int} {c : Nat → Bool} {k : Nat} : ∀ q, (∀ a, a < q → k ≠ 3 * (10 * a + w) + t) → hI (mgM σ w t v c q) 13 k = hI σ 13 k
  | 0, _ => rfl
  | q + 1, h => by
    have h1 := h q (by omega)
    unfold mgM
    split
    · rw [hI_uI_n (by omega), hI_uI_n (by omega), mgM_13 q (fun a ha => h a (by omega))]
    · exact mgM_13 q (fun a ha => h a (by omega))
theorem mgM_5 {σ : am_HS} {w t : Nat} {v : Int} {c : Nat → Bool} (h : 0 ≤ hI σ 0 5 ∧ hI σ 0 5 ≤ 100000) : ∀ q, q ≤ 6 → hI (mgM σ w t v c q) 0 5 = hI σ 0 5 + (cntB c q : Int)
  | 0, _ => by show hI σ 0 5 = hI σ 0 5 + 0; omega
  | q + 1, hq => by
    have ih := mgM_5 (w := w) (t := t) (v := v) (c := c) h q (by omega)
    have hc := cntB_le c q
    unfold mgM cntB
    split
    · rw [hI_uI_e (by rw [ih]; exact ⟨by omega, by omega⟩), ih]
      omega
    · rw [ih]
      omega
theorem mgM_rg {σ : am_HS} (hb : rgM σ) {w t : Nat} {v : Int} (hv : 0 ≤ v ∧ v ≤ 20) {c : Nat → Bool} (h : 0 ≤ hI σ 0 5 ∧ hI σ 0 5 ≤ 100000) : ∀ q, q ≤ 6 → rgM (mgM σ w t v c q)
  | 0, _ => hb
  | q + 1, hq => by
    have ih := mgM_rg hb (w := w) (t := t) hv (c := c) h q (by omega)
    have h5 := mgM_5 (w := w) (t := t) (v := v) (c := c) h q (by omega)
    have hc := cntB_le c q
    unfold mgM
    split
    · exact (ih.u ⟨by show (-1 : Int) ≤ v; omega, by show v ≤ (20 : Int); omega⟩).u ⟨by show (-2147483648 : Int) ≤ _; omega, by show _ ≤ (2147483647 : Int); omega⟩
    · exact ih

theorem cm_markT {d : Nat} (hD : 3 ≤ d) (σ : am_HS) (hf0 : σ.2.2 = mH) (hb : rgM σ) (h5 : 0 ≤ hI σ 0 5 ∧ hI σ 0 5 ≤ 100000) (P : Nat) (hP : hI σ 0 1 = (P : Int)) (hP6 : P ≤ 6) (p w : Nat) (hp : p < P) (hw : w < 10) (v : Int) (hv : 0 ≤ v ∧ v ≤ 20) (t : Nat) (ht : t < 3) (ht0 : hI σ 3 w = 1 → t = 0) : ∀ (m q : Nat), q + m = P → ∀ (o9 o10 : Option am_V), am_Go lm d 7 11 1 cX7_mark 104 [some (vR (some 0)), some (vI (p : Int)), some (vI (w : Int)), some (vI v), some (vI (t : Int)), some (vI (cntB (cgM σ p w) q : Int)), some (vI (hI σ 12 (3 * (10 * p + w)))), some (vI (hI σ 11 (3 * (10 * p + w)))), some (vI (q : Int)), o9, o10] [] (mgM σ w t v (cgM σ p w) q) (qI fun z s => z = (cntB (cgM σ p w) P : Int) ∧ s = mgM σ w t v (cgM σ p w) P) := by
  intro m
  induction m with
  | zero =>
    intro q hq o9 o10
    have hq2 : q = P := by omega
    subst hq2
    have hf := (mgM_f (w := w) (t := t) (v := v) (c := cgM σ p w) (σ := σ) q).trans hf0
    have h1 : hI (mgM σ w t v (cgM σ p w) q) 0 1 = (q : Int) := (mgM_o (by omega) q).trans hP
    refine g_iload dX7_mark_104 rfl ?_
    refine g_aload_n dX7_mark_106 rfl ?_
    refine g_getI dX7_mark_107 tf_7_137 rfl rfl ?_
    refine g_icmp_ge (tgt := 240) dX7_mark_110 (by decide) (fun c110 => ?_) (fun c110 => ?_)
    · refine g_iload dX7_mark_240 rfl ?_
      refine g_ireturn dX7_mark_242 (Or.inl rfl) ⟨_, rfl, ?_⟩
      exact ⟨rfl, rfl⟩
    · exfalso; omega
  | succ m ih =>
    intro q hq o9 o10
    have ih := ih (q + 1) (by omega)
    have hf := (mgM_f (w := w) (t := t) (v := v) (c := cgM σ p w) (σ := σ) q).trans hf0
    have h1 : hI (mgM σ w t v (cgM σ p w) q) 0 1 = (P : Int) := (mgM_o (by omega) q).trans hP
    have g3 : ∀ k, hI (mgM σ w t v (cgM σ p w) q) 3 k = hI σ 3 k := fun k => mgM_o (by omega) q
    have g10 : ∀ k, hI (mgM σ w t v (cgM σ p w) q) 10 k = hI σ 10 k := fun k => mgM_o (by omega) q
    have g11 : ∀ k, hI (mgM σ w t v (cgM σ p w) q) 11 k = hI σ 11 k := fun k => mgM_o (by omega) q
    have g12 : ∀ k, hI (mgM σ w t v (cgM σ p w) q) 12 k = hI σ 12 k := fun k => mgM_o (by omega) q
    have g13 : hI (mgM σ w t v (cgM σ p w) q) 13 (3 * (10 * q + w)) = hI σ 13 (3 * (10 * q + w)) := mgM_13 q (fun a ha => by omega)
    have g5 := mgM_5 (w := w) (t := t) (v := v) (c := cgM σ p w) h5 q (by omega)
    have hc := cntB_le (cgM σ p w) q
    have tail : ∀ (i : Int) (o10 : Option am_V), (i = 1 ∧ cgM σ p w q = true ∨ i = 0 ∧ cgM σ p w q = false) → am_Go lm d 7 11 1 cX7_mark 200 [some (vR (some 0)), some (vI (p : Int)), some (vI (w : Int)), some (vI v), some (vI (t : Int)), some (vI (cntB (cgM σ p w) q : Int)), some (vI (hI σ 12 (3 * (10 * p + w)))), some (vI (hI σ 11 (3 * (10 * p + w)))), some (vI (q : Int)), some (vI (3 * (10 * (q : Int) + (w : Int)))), o10] [vI i] (mgM σ w t v (cgM σ p w) q) (qI fun z s => z = (cntB (cgM σ p w) P : Int) ∧ s = mgM σ w t v (cgM σ p w) P) := by
      intro i o10 hi
      rw [mgM_s, cntB_s] at ih
      refine g_istore dX7_mark_200 (by decide) rfl ?_
      refine g_iload dX7_mark_202 rfl ?_
      refine g_if_ne (tgt := 210) dX7_mark_204 (by decide) (fun c204 => ?_) (fun c204 => ?_)
      · have hc1 : cgM σ p w q = true := by rcases hi with ⟨a, b⟩ | ⟨a, b⟩; exact b; exact absurd a c204
        clear hi
        rw [if_pos hc1, if_pos hc1] at ih
        refine g_aload_n dX7_mark_210 rfl ?_
        refine g_getA dX7_mark_211 tf_7_46 rfl rfl (mrf hf rfl) ?_
        refine g_iload dX7_mark_214 rfl ?_
        refine g_iload dX7_mark_216 rfl ?_
        refine g_iadd dX7_mark_218 rfl ⟨by omega, by omega⟩ ?_
        refine g_iload_n dX7_mark_219 rfl ?_
        refine g_iastN (3 * (10 * q + w) + t) dX7_mark_220 rfl (by omega) (by omega) ?_
        refine g_aload_n dX7_mark_221 rfl ?_
        refine g_dup dX7_mark_222 rfl ?_
        refine g_getI dX7_mark_223 tf_7_379 rfl rfl ?_
        rw [hI_uI_n (by omega)]
        refine g_iconst dX7_mark_226 ⟨by decide, by decide⟩ ?_
        refine g_iadd dX7_mark_227 rfl ⟨by omega, by omega⟩ ?_
        refine g_putI dX7_mark_228 tf_7_379 rfl rfl rfl ?_
        refine g_iinc dX7_mark_231 (by decide) rfl ⟨by omega, by omega⟩ (show (cntB (cgM σ p w) q : Int) + 1 = ((cntB (cgM σ p w) q + 1 : Nat) : Int) from by omega) rfl ?_
        refine g_iinc dX7_mark_234 (by decide) rfl ⟨by omega, by omega⟩ (show (q : Int) + 1 = ((q + 1 : Nat) : Int) from by omega) rfl ?_
        refine g_goto (tgt := 104) dX7_mark_237 (by decide) ?_
        first
          | exact ih _ _
          | (rw [Nat.add_zero] at ih; exact ih _ _)
      · have hc1 : cgM σ p w q = false := by rcases hi with ⟨a, b⟩ | ⟨a, b⟩; exact absurd (a.symm.trans (Classical.not_not.mp c204)) (by decide); exact b
        clear hi
        rw [if_neg (show ¬ cgM σ p w q = true by rw [hc1]; decide), if_neg (show ¬ cgM σ p w q = true by rw [hc1]; decide)] at ih
        refine g_goto (tgt := 234) dX7_mark_207 (by decide) ?_
        refine g_iinc dX7_mark_234 (by decide) rfl ⟨by omega, by omega⟩ (show (q : Int) + 1 = ((q + 1 : Nat) : Int) from by omega) rfl ?_
        refine g_goto (tgt := 104) dX7_mark_237 (by decide) ?_
        first
          | exact ih _ _
          | (rw [Nat.add_zero] at ih; exact ih _ _)
    refine g_iload dX7_mark_104 rfl ?_
    refine g_aload_n dX7_mark_106 rfl ?_
    refine g_getI dX7_mark_107 tf_7_137 rfl rfl ?_
    refine g_icmp_ge (tgt := 240) dX7_mark_110 (by decide) (fun c110 => ?_) (fun c110 => ?_)
    · exfalso; omega
    · refine g_iconst dX7_mark_113 ⟨by decide, by decide⟩ ?_
      refine g_iload dX7_mark_114 rfl ?_
      refine g_iload_n dX7_mark_116 rfl ?_
      refine g_callsI dX7_mark_117 tm_7_159 rfl ⟨Nat.le_of_ble_eq_true rfl, rfl, rfl⟩ (Nat.le_of_ble_eq_true rfl) (cm_spot (by omega) _ _ _ ⟨by omega, by omega⟩ ⟨by omega, by omega⟩) (fun z117 s117 h117 => ?_)
      obtain ⟨rfl, e117⟩ := h117
      obtain rfl := e117.symm
      refine g_imul dX7_mark_120 rfl ⟨by omega, by omega⟩ ?_
      refine g_istore dX7_mark_121 (by decide) rfl ?_
      refine g_aload_n dX7_mark_123 rfl ?_
      refine g_getA dX7_mark_124 tf_7_16 rfl rfl (mrf hf rfl) ?_
      refine g_iload_n dX7_mark_127 rfl ?_
      refine g_ialdN (w) dX7_mark_128 rfl (by omega) (by omega) ?_
      rw [g3]
      refine g_iconst dX7_mark_129 ⟨by decide, by decide⟩ ?_
      refine g_icmp_ne (tgt := 189) dX7_mark_130 (by decide) (fun c130 => ?_) (fun c130 => ?_)
      · refine g_iload dX7_mark_189 rfl ?_
        refine g_iload_n dX7_mark_191 rfl ?_
        refine g_icmp_ne (tgt := 199) dX7_mark_192 (by decide) (fun c192 => ?_) (fun c192 => ?_)
        · refine g_iconst dX7_mark_199 ⟨by decide, by decide⟩ ?_
          first
            | exact tail _ _ (Or.inl ⟨rfl, by unfold cgM; first | (rw [if_pos (by omega)]; exact decide_eq_true ⟨by omega, by omega, by omega, by omega⟩) | (rw [if_neg (by omega)]; exact decide_eq_true (by omega))⟩)
            | exact tail _ _ (Or.inr ⟨rfl, by unfold cgM; first | (rw [if_pos (by omega)]; exact decide_eq_false (by omega)) | (rw [if_neg (by omega)]; exact decide_eq_false (by omega))⟩)
        · refine g_iconst dX7_mark_195 ⟨by decide, by decide⟩ ?_
          refine g_goto (tgt := 200) dX7_mark_196 (by decide) ?_
          first
            | exact tail _ _ (Or.inl ⟨rfl, by unfold cgM; first | (rw [if_pos (by omega)]; exact decide_eq_true ⟨by omega, by omega, by omega, by omega⟩) | (rw [if_neg (by omega)]; exact decide_eq_true (by omega))⟩)
            | exact tail _ _ (Or.inr ⟨rfl, by unfold cgM; first | (rw [if_pos (by omega)]; exact decide_eq_false (by omega)) | (rw [if_neg (by omega)]; exact decide_eq_false (by omega))⟩)
      · refine g_aload_n dX7_mark_133 rfl ?_
        refine g_getA dX7_mark_134 tf_7_37 rfl rfl (mrf hf rfl) ?_
        refine g_iload dX7_mark_137 rfl ?_
        refine g_iload_n dX7_mark_139 rfl ?_
        refine g_callsI dX7_mark_140 tm_7_159 rfl ⟨Nat.le_of_ble_eq_true rfl, rfl, rfl⟩ (Nat.le_of_ble_eq_true rfl) (cm_spot (by omega) _ _ _ ⟨by omega, by omega⟩ ⟨by omega, by omega⟩) (fun z140 s140 h140 => ?_)
        obtain ⟨rfl, e140⟩ := h140
        obtain rfl := e140.symm
        refine g_ialdN (10 * q + w) dX7_mark_143 rfl (by omega) (by omega) ?_
        rw [g10]
        refine g_if_le (tgt := 185) dX7_mark_144 (by decide) (fun c144 => ?_) (fun c144 => ?_)
        · refine g_iconst dX7_mark_185 ⟨by decide, by decide⟩ ?_
          refine g_goto (tgt := 200) dX7_mark_186 (by decide) ?_
          first
            | exact tail _ _ (Or.inl ⟨rfl, by unfold cgM; first | (rw [if_pos (by omega)]; exact decide_eq_true ⟨by omega, by omega, by omega, by omega⟩) | (rw [if_neg (by omega)]; exact decide_eq_true (by omega))⟩)
            | exact tail _ _ (Or.inr ⟨rfl, by unfold cgM; first | (rw [if_pos (by omega)]; exact decide_eq_false (by omega)) | (rw [if_neg (by omega)]; exact decide_eq_false (by omega))⟩)
        · refine g_aload_n dX7_mark_147 rfl ?_
          refine g_getA dX7_mark_148 tf_7_46 rfl rfl (mrf hf rfl) ?_
          refine g_iload dX7_mark_151 rfl ?_
          refine g_ialdN (3 * (10 * q + w)) dX7_mark_153 rfl (by omega) (by omega) ?_
          rw [g13]
          refine g_if_ge (tgt := 185) dX7_mark_154 (by decide) (fun c154 => ?_) (fun c154 => ?_)
          · refine g_iconst dX7_mark_185 ⟨by decide, by decide⟩ ?_
            refine g_goto (tgt := 200) dX7_mark_186 (by decide) ?_
            first
              | exact tail _ _ (Or.inl ⟨rfl, by unfold cgM; first | (rw [if_pos (by omega)]; exact decide_eq_true ⟨by omega, by omega, by omega, by omega⟩) | (rw [if_neg (by omega)]; exact decide_eq_true (by omega))⟩)
              | exact tail _ _ (Or.inr ⟨rfl, by unfold cgM; first | (rw [if_pos (by omega)]; exact decide_eq_false (by omega)) | (rw [if_neg (by omega)]; exact decide_eq_false (by omega))⟩)
          · refine g_aload_n dX7_mark_157 rfl ?_
            refine g_getA dX7_mark_158 tf_7_43 rfl rfl (mrf hf rfl) ?_
            refine g_iload dX7_mark_161 rfl ?_
            refine g_ialdN (3 * (10 * q + w)) dX7_mark_163 rfl (by omega) (by omega) ?_
            rw [g12]
            refine g_iload dX7_mark_164 rfl ?_
            refine g_icmp_ne (tgt := 185) dX7_mark_166 (by decide) (fun c166 => ?_) (fun c166 => ?_)
            · refine g_iconst dX7_mark_185 ⟨by decide, by decide⟩ ?_
              refine g_goto (tgt := 200) dX7_mark_186 (by decide) ?_
              first
                | exact tail _ _ (Or.inl ⟨rfl, by unfold cgM; first | (rw [if_pos (by omega)]; exact decide_eq_true ⟨by omega, by omega, by omega, by omega⟩) | (rw [if_neg (by omega)]; exact decide_eq_true (by omega))⟩)
                | exact tail _ _ (Or.inr ⟨rfl, by unfold cgM; first | (rw [if_pos (by omega)]; exact decide_eq_false (by omega)) | (rw [if_neg (by omega)]; exact decide_eq_false (by omega))⟩)
            · refine g_aload_n dX7_mark_169 rfl ?_
              refine g_getA dX7_mark_170 tf_7_40 rfl rfl (mrf hf rfl) ?_
              refine g_iload dX7_mark_173 rfl ?_
              refine g_ialdN (3 * (10 * q + w)) dX7_mark_175 rfl (by omega) (by omega) ?_
              rw [g11]
              refine g_iload dX7_mark_176 rfl ?_
              refine g_icmp_ne (tgt := 185) dX7_mark_178 (by decide) (fun c178 => ?_) (fun c178 => ?_)
              · refine g_iconst dX7_mark_185 ⟨by decide, by decide⟩ ?_
                refine g_goto (tgt := 200) dX7_mark_186 (by decide) ?_
                first
                  | exact tail _ _ (Or.inl ⟨rfl, by unfold cgM; first | (rw [if_pos (by omega)]; exact decide_eq_true ⟨by omega, by omega, by omega, by omega⟩) | (rw [if_neg (by omega)]; exact decide_eq_true (by omega))⟩)
                  | exact tail _ _ (Or.inr ⟨rfl, by unfold cgM; first | (rw [if_pos (by omega)]; exact decide_eq_false (by omega)) | (rw [if_neg (by omega)]; exact decide_eq_false (by omega))⟩)
              · refine g_iconst dX7_mark_181 ⟨by decide, by decide⟩ ?_
                refine g_goto (tgt := 200) dX7_mark_182 (by decide) ?_
                first
                  | exact tail _ _ (Or.inl ⟨rfl, by unfold cgM; first | (rw [if_pos (by omega)]; exact decide_eq_true ⟨by omega, by omega, by omega, by omega⟩) | (rw [if_neg (by omega)]; exact decide_eq_true (by omega))⟩)
                  | exact tail _ _ (Or.inr ⟨rfl, by unfold cgM; first | (rw [if_pos (by omega)]; exact decide_eq_false (by omega)) | (rw [if_neg (by omega)]; exact decide_eq_false (by omega))⟩)
theorem cm_mark {D : Nat} (hD : 5 ≤ D) (σ : am_HS) (hf : σ.2.2 = mH) (hb : rgM σ) (hg : GM σ) (h5 : 0 ≤ hI σ 0 5 ∧ hI σ 0 5 ≤ 100000) (hmny : ∀ a b : Nat, a < 6 → b < 10 → hI σ 3 b = 2 → hI σ 10 (10 * a + b) ≤ 3) (P : Nat) (hP : hI σ 0 1 = (P : Int)) (p w v : Int) : am_Do lm D mX7_mark σ [vR (some 0), vI p, vI w, vI v] (qI fun z s => (¬ (0 ≤ p ∧ p < hI σ 0 1 ∧ 0 ≤ w ∧ w < hI σ 0 2) ∧ z = -1 ∧ s = uI σ 1 1 (hI σ 1 1 + 1)) ∨ ((0 ≤ p ∧ p < hI σ 0 1 ∧ 0 ≤ w ∧ w < hI σ 0 2) ∧ (tmN σ p.toNat w.toNat ∧ z = -3 ∧ s = uI σ 1 3 (hI σ 1 3 + 1) ∨ ¬ tmN σ p.toNat w.toNat ∧ (v < 0 ∧ z = -4 ∧ s = uI σ 1 4 (hI σ 1 4 + 1) ∨ 0 ≤ v ∧ hI σ 4 w.toNat < v ∧ z = -6 ∧ s = uI σ 1 6 (hI σ 1 6 + 1) ∨ 0 ≤ v ∧ v ≤ hI σ 4 w.toNat ∧ z = (cntB (cgM σ p.toNat w.toNat) P : Int) ∧ s = mgM σ w.toNat (tmM σ p.toNat w.toNat).toNat v (cgM σ p.toNat w.toNat) P)))) := by
  obtain ⟨hg1, hg2, hrf⟩ := id hg
  obtain ⟨d, rfl⟩ : ∃ d, D = d + 1 := ⟨D - 1, by omega⟩
  refine am_enter rfl rfl (Nat.le_of_ble_eq_true rfl) ?_
  refine g_aload_n dX7_mark_0 rfl ?_
  refine g_iload_n dX7_mark_1 rfl ?_
  refine g_callvI dX7_mark_2 tm_7_151 rfl ⟨rfl, rfl⟩ rfl (Nat.le_of_ble_eq_true rfl) (cm_isPupil (by omega) σ _) (fun z2 s2 h2 => ?_)
  obtain ⟨h2, e2⟩ := h2
  obtain rfl := e2.symm
  refine g_if_eq (tgt := 16) dX7_mark_5 (by decide) (fun c5 => ?_) (fun c5 => ?_)
  · refine g_aload_n dX7_mark_16 rfl ?_
    refine g_iconst dX7_mark_17 ⟨by decide, by decide⟩ ?_
    refine g_callvI dX7_mark_18 tm_7_133 rfl ⟨rfl, rfl⟩ rfl (Nat.le_of_ble_eq_true rfl) (cm_refuse (by omega) σ hf _ ⟨by omega, by omega⟩ hg.2.2) (fun z18 s18 h18 => ?_)
    obtain ⟨rfl, rfl⟩ := h18
    refine g_ireturn dX7_mark_21 (Or.inl rfl) ⟨_, rfl, ?_⟩
    first
      | exact Or.inl ⟨by omega, rfl, rfl⟩
      | exact Or.inr ⟨hin, Or.inr ⟨htn, Or.inl ⟨by omega, rfl, rfl⟩⟩⟩
      | exact Or.inr ⟨hin, Or.inr ⟨htn, Or.inr (Or.inl ⟨by omega, by omega, rfl, rfl⟩)⟩⟩
      | exact Or.inr ⟨hin, Or.inl ⟨by rcases h25 with ⟨a, b⟩ | ⟨a, b, c, e⟩; exact b; exact absurd b (by omega), rfl, rfl⟩⟩
  · refine g_aload_n dX7_mark_8 rfl ?_
    refine g_iload_n dX7_mark_9 rfl ?_
    refine g_callvI dX7_mark_10 tm_7_156 rfl ⟨rfl, rfl⟩ rfl (Nat.le_of_ble_eq_true rfl) (cm_isWork (by omega) σ _) (fun z10 s10 h10 => ?_)
    obtain ⟨h10, e10⟩ := h10
    obtain rfl := e10.symm
    refine g_if_ne (tgt := 22) dX7_mark_13 (by decide) (fun c13 => ?_) (fun c13 => ?_)
    · obtain ⟨p, rfl⟩ : ∃ q : Nat, p = (q : Int) := ⟨p.toNat, by omega⟩
      obtain ⟨w, rfl⟩ : ∃ q : Nat, w = (q : Int) := ⟨w.toNat, by omega⟩
      have hp : p < 6 := by omega
      have hw : w < 10 := by omega
      simp only [Int.toNat_natCast]
      have hin : (0 ≤ (p : Int) ∧ (p : Int) < hI σ 0 1 ∧ 0 ≤ (w : Int) ∧ (w : Int) < hI σ 0 2) := by omega
      have hmo : 0 ≤ hI σ 4 w ∧ hI σ 4 w ≤ 20 := hb 4 w
      refine g_aload_n dX7_mark_22 rfl ?_
      refine g_iload_n dX7_mark_23 rfl ?_
      refine g_iload_n dX7_mark_24 rfl ?_
      refine g_callvI dX7_mark_25 tm_7_376 rfl ⟨rfl, rfl⟩ rfl (Nat.le_of_ble_eq_true rfl) (cm_toMark (by omega) σ hf hb p w hp hw (hmny p w hp hw)) (fun z25 s25 h25 => ?_)
      obtain ⟨h25, e25⟩ := h25
      obtain rfl := e25.symm
      refine g_istore dX7_mark_28 (by decide) rfl ?_
      refine g_iload dX7_mark_30 rfl ?_
      refine g_if_ge (tgt := 42) dX7_mark_32 (by decide) (fun c32 => ?_) (fun c32 => ?_)
      · obtain ⟨hz, hz0, hz3, htn⟩ : z25 = tmM σ p w ∧ 0 ≤ z25 ∧ z25 < 3 ∧ ¬ tmN σ p w := by
          rcases h25 with ⟨a, b⟩ | a
          · exfalso; omega
          · exact a
        clear h25
        obtain ⟨t, rfl⟩ : ∃ t : Nat, z25 = (t : Int) := ⟨z25.toNat, by omega⟩
        refine g_iload_n dX7_mark_42 rfl ?_
        refine g_if_ge (tgt := 53) dX7_mark_43 (by decide) (fun c43 => ?_) (fun c43 => ?_)
        · refine g_iload_n dX7_mark_53 rfl ?_
          refine g_aload_n dX7_mark_54 rfl ?_
          refine g_getA dX7_mark_55 tf_7_19 rfl rfl (mrf hf rfl) ?_
          refine g_iload_n dX7_mark_58 rfl ?_
          refine g_ialdN (w) dX7_mark_59 rfl (by omega) (by omega) ?_
          refine g_icmp_le (tgt := 70) dX7_mark_60 (by decide) (fun c60 => ?_) (fun c60 => ?_)
          · refine g_iconst dX7_mark_70 ⟨by decide, by decide⟩ ?_
            refine g_istore dX7_mark_71 (by decide) rfl ?_
            refine g_aload_n dX7_mark_73 rfl ?_
            refine g_getA dX7_mark_74 tf_7_43 rfl rfl (mrf hf rfl) ?_
            refine g_iconst dX7_mark_77 ⟨by decide, by decide⟩ ?_
            refine g_iload_n dX7_mark_78 rfl ?_
            refine g_iload_n dX7_mark_79 rfl ?_
            refine g_callsI dX7_mark_80 tm_7_159 rfl ⟨Nat.le_of_ble_eq_true rfl, rfl, rfl⟩ (Nat.le_of_ble_eq_true rfl) (cm_spot (by omega) _ _ _ ⟨by omega, by omega⟩ ⟨by omega, by omega⟩) (fun z80 s80 h80 => ?_)
            obtain ⟨rfl, e80⟩ := h80
            obtain rfl := e80.symm
            refine g_imul dX7_mark_83 rfl ⟨by omega, by omega⟩ ?_
            refine g_ialdN (3 * (10 * p + w)) dX7_mark_84 rfl (by omega) (by omega) ?_
            refine g_istore dX7_mark_85 (by decide) rfl ?_
            refine g_aload_n dX7_mark_87 rfl ?_
            refine g_getA dX7_mark_88 tf_7_40 rfl rfl (mrf hf rfl) ?_
            refine g_iconst dX7_mark_91 ⟨by decide, by decide⟩ ?_
            refine g_iload_n dX7_mark_92 rfl ?_
            refine g_iload_n dX7_mark_93 rfl ?_
            refine g_callsI dX7_mark_94 tm_7_159 rfl ⟨Nat.le_of_ble_eq_true rfl, rfl, rfl⟩ (Nat.le_of_ble_eq_true rfl) (cm_spot (by omega) _ _ _ ⟨by omega, by omega⟩ ⟨by omega, by omega⟩) (fun z94 s94 h94 => ?_)
            obtain ⟨rfl, e94⟩ := h94
            obtain rfl := e94.symm
            refine g_imul dX7_mark_97 rfl ⟨by omega, by omega⟩ ?_
            refine g_ialdN (3 * (10 * p + w)) dX7_mark_98 rfl (by omega) (by omega) ?_
            refine g_istore dX7_mark_99 (by decide) rfl ?_
            refine g_iconst dX7_mark_101 ⟨by decide, by decide⟩ ?_
            refine g_istore dX7_mark_102 (by decide) rfl ?_
            refine am_Go.mono (cm_markT (by omega) σ hf hb h5 P hP (by omega) p w (by omega) hw v (by omega) t (by omega) (fun h1 => by unfold tmM at hz; rw [if_neg (by omega)] at hz; omega) P 0 (by omega) _ _) (fun _ _ ⟨z, h1, h2, h3⟩ => ⟨z, h1, Or.inr ⟨hin, Or.inr ⟨htn, Or.inr (Or.inr ⟨by omega, by omega, h2, ?_⟩)⟩⟩⟩)
            rw [← hz, Int.toNat_natCast]
            exact h3
          · refine g_aload_n dX7_mark_63 rfl ?_
            refine g_bipush dX7_mark_64 (by decide) ?_
            refine g_callvI dX7_mark_66 tm_7_133 rfl ⟨rfl, rfl⟩ rfl (Nat.le_of_ble_eq_true rfl) (cm_refuse (by omega) σ hf _ ⟨by omega, by omega⟩ hg.2.2) (fun z66 s66 h66 => ?_)
            obtain ⟨rfl, rfl⟩ := h66
            refine g_ireturn dX7_mark_69 (Or.inl rfl) ⟨_, rfl, ?_⟩
            first
              | exact Or.inl ⟨by omega, rfl, rfl⟩
              | exact Or.inr ⟨hin, Or.inr ⟨htn, Or.inl ⟨by omega, rfl, rfl⟩⟩⟩
              | exact Or.inr ⟨hin, Or.inr ⟨htn, Or.inr (Or.inl ⟨by omega, by omega, rfl, rfl⟩)⟩⟩
              | exact Or.inr ⟨hin, Or.inl ⟨by rcases h25 with ⟨a, b⟩ | ⟨a, b, c, e⟩; exact b; exact absurd b (by omega), rfl, rfl⟩⟩
        · refine g_aload_n dX7_mark_46 rfl ?_
          refine g_bipush dX7_mark_47 (by decide) ?_
          refine g_callvI dX7_mark_49 tm_7_133 rfl ⟨rfl, rfl⟩ rfl (Nat.le_of_ble_eq_true rfl) (cm_refuse (by omega) σ hf _ ⟨by omega, by omega⟩ hg.2.2) (fun z49 s49 h49 => ?_)
          obtain ⟨rfl, rfl⟩ := h49
          refine g_ireturn dX7_mark_52 (Or.inl rfl) ⟨_, rfl, ?_⟩
          first
            | exact Or.inl ⟨by omega, rfl, rfl⟩
            | exact Or.inr ⟨hin, Or.inr ⟨htn, Or.inl ⟨by omega, rfl, rfl⟩⟩⟩
            | exact Or.inr ⟨hin, Or.inr ⟨htn, Or.inr (Or.inl ⟨by omega, by omega, rfl, rfl⟩)⟩⟩
            | exact Or.inr ⟨hin, Or.inl ⟨by rcases h25 with ⟨a, b⟩ | ⟨a, b, c, e⟩; exact b; exact absurd b (by omega), rfl, rfl⟩⟩
      · refine g_aload_n dX7_mark_35 rfl ?_
        refine g_bipush dX7_mark_36 (by decide) ?_
        refine g_callvI dX7_mark_38 tm_7_133 rfl ⟨rfl, rfl⟩ rfl (Nat.le_of_ble_eq_true rfl) (cm_refuse (by omega) σ hf _ ⟨by omega, by omega⟩ hg.2.2) (fun z38 s38 h38 => ?_)
        obtain ⟨rfl, rfl⟩ := h38
        refine g_ireturn dX7_mark_41 (Or.inl rfl) ⟨_, rfl, ?_⟩
        first
          | exact Or.inl ⟨by omega, rfl, rfl⟩
          | exact Or.inr ⟨hin, Or.inr ⟨htn, Or.inl ⟨by omega, rfl, rfl⟩⟩⟩
          | exact Or.inr ⟨hin, Or.inr ⟨htn, Or.inr (Or.inl ⟨by omega, by omega, rfl, rfl⟩)⟩⟩
          | exact Or.inr ⟨hin, Or.inl ⟨by rcases h25 with ⟨a, b⟩ | ⟨a, b, c, e⟩; exact b; exact absurd b (by omega), rfl, rfl⟩⟩
    · refine g_aload_n dX7_mark_16 rfl ?_
      refine g_iconst dX7_mark_17 ⟨by decide, by decide⟩ ?_
      refine g_callvI dX7_mark_18 tm_7_133 rfl ⟨rfl, rfl⟩ rfl (Nat.le_of_ble_eq_true rfl) (cm_refuse (by omega) σ hf _ ⟨by omega, by omega⟩ hg.2.2) (fun z18 s18 h18 => ?_)
      obtain ⟨rfl, rfl⟩ := h18
      refine g_ireturn dX7_mark_21 (Or.inl rfl) ⟨_, rfl, ?_⟩
      first
        | exact Or.inl ⟨by omega, rfl, rfl⟩
        | exact Or.inr ⟨hin, Or.inr ⟨htn, Or.inl ⟨by omega, rfl, rfl⟩⟩⟩
        | exact Or.inr ⟨hin, Or.inr ⟨htn, Or.inr (Or.inl ⟨by omega, by omega, rfl, rfl⟩)⟩⟩
        | exact Or.inr ⟨hin, Or.inl ⟨by rcases h25 with ⟨a, b⟩ | ⟨a, b, c, e⟩; exact b; exact absurd b (by omega), rfl, rfl⟩⟩

/-- a byte of an int, the highest first -/
theorem bt_ush {x : Int} (hx : rI x) (s : Nat) (hs : s = 0 ∨ s = 8 ∨ s = 16 ∨ s = 24) : (Int32.ofInt ((((Int32.ofInt x).toUInt32 >>> ((Int32.ofInt (s : Int)).toUInt32 &&& Int32.toUInt32 31)).toInt32).toInt) &&& Int32.ofInt 255).toInt = x / (2 ^ s : Nat) % 256 := by
  have e1 : ∀ u : UInt32, (Int32.ofInt (u.toInt32.toInt) &&& Int32.ofInt 255).toInt = ((u.toNat % 256 : Nat) : Int) := by
    intro u
    rw [Int32.ofInt_toInt]
    show ((u.toInt32 &&& Int32.ofInt 255).toBitVec).toInt = _
    rw [Int32.toBitVec_and]
    have h1 : (u.toInt32.toBitVec &&& (Int32.ofInt 255).toBitVec).toNat = u.toNat % 256 := by
      rw [BitVec.toNat_and]
      show u.toNat &&& 255 = _
      exact Nat.and_two_pow_sub_one_eq_mod u.toNat 8
    rw [BitVec.toInt_eq_toNat_of_lt (by rw [h1]; omega), h1]
  rw [e1]
  have e2 : (Int32.ofInt x).toUInt32.toNat = (x % 4294967296).toNat := by
    show (Int32.ofInt x).toBitVec.toNat = _
    have : (Int32.ofInt x).toBitVec = BitVec.ofInt 32 x := rfl
    rw [this, BitVec.toNat_ofInt]
    rfl
  have e3 : ((Int32.ofInt x).toUInt32 >>> ((Int32.ofInt (s : Int)).toUInt32 &&& Int32.toUInt32 31)).toNat = (x % 4294967296).toNat / 2 ^ s := by
    rw [UInt32.toNat_shiftRight, e2, Nat.shiftRight_eq_div_pow]
    congr 2
    rcases hs with rfl | rfl | rfl | rfl <;> decide
  rw [e3]
  unfold rI at hx
  rcases hs with rfl | rfl | rfl | rfl
  · show (((x % 4294967296).toNat / 1 % 256 : Nat) : Int) = x / 1 % 256
    omega
  · show (((x % 4294967296).toNat / 256 % 256 : Nat) : Int) = x / 256 % 256
    omega
  · show (((x % 4294967296).toNat / 65536 % 256 : Nat) : Int) = x / 65536 % 256
    omega
  · show (((x % 4294967296).toNat / 16777216 % 256 : Nat) : Int) = x / 16777216 % 256
    omega
def pkS (a b c d e : Int) (k : Nat) : Int := if k < 4 then a else if k < 8 then b else if k < 12 then c else if k < 16 then d else e
def byS (a b c d e : Int) (k : Nat) : Int := pkS a b c d e k / (2 ^ (24 - 8 * (k % 4)) : Nat) % 256
/-- twenty bytes more -/
def txM (σ : am_HS) (f : Nat → Int) : Nat → am_HS
  | 0 => σ
  | k + 1 => uI (uI (txM σ f k) 16 ((hI σ 0 23).toNat + k) (f k)) 0 23 (hI σ 0 23 + k + 1)
theorem txM_f {σ : am_HS} {f : Nat → Int} : ∀ k, (txM σ f k).2.2 = σ.2.2
  | 0 => rfl
  | k + 1 => txM_f k
theorem txM_23 {σ : am_HS} {f : Nat → Int} (h : 0 ≤ hI σ 0 23 ∧ hI σ 0 23 ≤ 600) : ∀ k, k ≤ 20 → hI (txM σ f k) 0 23 = hI σ 0 23 + (k : Int)
  | 0, _ => by show hI σ 0 23 = hI σ 0 23 + 0; omega
  | k + 1, hk => by
    unfold txM
    rw [hI_uI_e ⟨by omega, by omega⟩]
    omega

theorem cm_text {D : Nat} (hD : 3 ≤ D) (σ : am_HS) (hf : σ.2.2 = mH) (hb : rgM σ) (hg : GM σ) (h23 : 0 ≤ hI σ 0 23 ∧ hI σ 0 23 ≤ 600) (a b c dd e : Int) (ra : rI a) (rb : rI b) (rc : rI c) (rd : rI dd) (re : rI e) : am_Do lm D mX7_text σ [vR (some 0), vI a, vI b, vI c, vI dd, vI e] (qI fun z s => (580 < hI σ 0 23 ∧ z = -6 ∧ s = uI σ 1 6 (hI σ 1 6 + 1)) ∨ (hI σ 0 23 ≤ 580 ∧ z = hI σ 0 23 + 20 ∧ s = txM σ (byS a b c dd e) 20)) := by
  obtain ⟨hg1, hg2, hrf⟩ := id hg
  obtain ⟨d, rfl⟩ : ∃ d, D = d + 1 := ⟨D - 1, by omega⟩
  refine am_enter rfl rfl (Nat.le_of_ble_eq_true rfl) ?_
  have loop : hI σ 0 23 ≤ 580 → ∀ (m k : Nat), k + m = 20 → ∀ o7 : Option am_V, am_Go lm d 7 8 1 cX7_text 23 [some (vR (some 0)), some (vI a), some (vI b), some (vI c), some (vI dd), some (vI e), some (vI (k : Int)), o7] [] (txM σ (byS a b c dd e) k) (qI fun z s => (580 < hI σ 0 23 ∧ z = -6 ∧ s = uI σ 1 6 (hI σ 1 6 + 1)) ∨ (hI σ 0 23 ≤ 580 ∧ z = hI σ 0 23 + 20 ∧ s = txM σ (byS a b c dd e) 20)) := by
    intro hl m
    induction m with
    | zero =>
      intro k hk o7
      have hk2 : k = 20 := by omega
      subst hk2
      have e23 := txM_23 (f := byS a b c dd e) h23 20 (by omega)
      refine g_iload dX7_text_23 rfl ?_
      refine g_bipush dX7_text_25 (by decide) ?_
      refine g_icmp_ge (tgt := 120) dX7_text_27 (by decide) (fun c27 => ?_) (fun c27 => ?_)
      · refine g_aload_n dX7_text_120 rfl ?_
        refine g_getI dX7_text_121 tf_7_166 rfl rfl ?_
        rw [e23]
        refine g_ireturn dX7_text_124 (Or.inl rfl) ⟨_, rfl, ?_⟩
        exact Or.inr ⟨hl, rfl, rfl⟩
      · exfalso; omega
    | succ m ih =>
      intro k hk o7
      have ih := ih (k + 1) (by omega)
      have e23 := txM_23 (f := byS a b c dd e) h23 k (by omega)
      have hf2 := (txM_f (f := byS a b c dd e) (σ := σ) k).trans hf
      have tail : ∀ (v : Int), v = pkS a b c dd e k → rI v → am_Go lm d 7 8 1 cX7_text 76 [some (vR (some 0)), some (vI a), some (vI b), some (vI c), some (vI dd), some (vI e), some (vI (k : Int)), o7] [vI v] (txM σ (byS a b c dd e) k) (qI fun z s => (580 < hI σ 0 23 ∧ z = -6 ∧ s = uI σ 1 6 (hI σ 1 6 + 1)) ∨ (hI σ 0 23 ≤ 580 ∧ z = hI σ 0 23 + 20 ∧ s = txM σ (byS a b c dd e) 20)) := by
        intro v hv rv
        have hs : 24 - 8 * (k % 4) = 0 ∨ 24 - 8 * (k % 4) = 8 ∨ 24 - 8 * (k % 4) = 16 ∨ 24 - 8 * (k % 4) = 24 := by omega
        have hbt := bt_ush rv _ hs
        have hby : v / (2 ^ (24 - 8 * (k % 4)) : Nat) % 256 = byS a b c dd e k := by rw [hv]; rfl
        refine g_istore dX7_text_76 (by decide) rfl ?_
        refine g_aload_n dX7_text_78 rfl ?_
        refine g_getA dX7_text_79 tf_7_56 rfl rfl (mrf hf2 rfl) ?_
        refine g_aload_n dX7_text_82 rfl ?_
        refine g_getI dX7_text_83 tf_7_166 rfl rfl ?_
        refine g_iload dX7_text_86 rfl ?_
        refine g_bipush dX7_text_88 (by decide) ?_
        refine g_bipush dX7_text_90 (by decide) ?_
        refine g_iload dX7_text_92 rfl ?_
        refine g_iconst dX7_text_94 ⟨by decide, by decide⟩ ?_
        refine g_irem dX7_text_95 (by omega) (show (k : Int).tmod 4 = ((k % 4 : Nat) : Int) from by rw [Int.tmod_eq_emod_of_nonneg (by omega)]; omega) ⟨by omega, by omega⟩ ?_
        refine g_imul dX7_text_96 rfl ⟨by omega, by omega⟩ ?_
        refine g_isub dX7_text_97 rfl ⟨by omega, by omega⟩ ?_
        refine g_iushr dX7_text_98 rfl ?_
        refine g_sipush dX7_text_99 (by decide) ?_
        refine g_iand dX7_text_102 (by exact (show (24 : Int) - 8 * ((k % 4 : Nat) : Int) = ((24 - 8 * (k % 4) : Nat) : Int) from by omega) ▸ (hbt.trans hby)) ?_
        refine g_iastN ((hI σ 0 23).toNat + k) dX7_text_103 rfl (by omega) (by omega) ?_
        refine g_aload_n dX7_text_104 rfl ?_
        refine g_dup dX7_text_105 rfl ?_
        refine g_getI dX7_text_106 tf_7_166 rfl rfl ?_
        rw [hI_uI_n (by omega), e23]
        refine g_iconst dX7_text_109 ⟨by decide, by decide⟩ ?_
        refine g_iadd dX7_text_110 rfl ⟨by omega, by omega⟩ ?_
        refine g_putI dX7_text_111 tf_7_166 rfl rfl rfl ?_
        refine g_iinc dX7_text_114 (by decide) rfl ⟨by omega, by omega⟩ (show (k : Int) + 1 = ((k + 1 : Nat) : Int) from by omega) rfl ?_
        refine g_goto (tgt := 23) dX7_text_117 (by decide) ?_
        exact ih _
      refine g_iload dX7_text_23 rfl ?_
      refine g_bipush dX7_text_25 (by decide) ?_
      refine g_icmp_ge (tgt := 120) dX7_text_27 (by decide) (fun c27 => ?_) (fun c27 => ?_)
      · exfalso; omega
      · refine g_iload dX7_text_30 rfl ?_
        refine g_iconst dX7_text_32 ⟨by decide, by decide⟩ ?_
        refine g_icmp_ge (tgt := 40) dX7_text_33 (by decide) (fun c33 => ?_) (fun c33 => ?_)
        · refine g_iload dX7_text_40 rfl ?_
          refine g_bipush dX7_text_42 (by decide) ?_
          refine g_icmp_ge (tgt := 51) dX7_text_44 (by decide) (fun c44 => ?_) (fun c44 => ?_)
          · refine g_iload dX7_text_51 rfl ?_
            refine g_bipush dX7_text_53 (by decide) ?_
            refine g_icmp_ge (tgt := 62) dX7_text_55 (by decide) (fun c55 => ?_) (fun c55 => ?_)
            · refine g_iload dX7_text_62 rfl ?_
              refine g_bipush dX7_text_64 (by decide) ?_
              refine g_icmp_ge (tgt := 74) dX7_text_66 (by decide) (fun c66 => ?_) (fun c66 => ?_)
              · refine g_iload dX7_text_74 rfl ?_
                first
                  | exact tail a (by unfold pkS; rw [if_pos (by omega)]) ra
                  | exact tail b (by unfold pkS; rw [if_neg (by omega), if_pos (by omega)]) rb
                  | exact tail c (by unfold pkS; rw [if_neg (by omega), if_neg (by omega), if_pos (by omega)]) rc
                  | exact tail dd (by unfold pkS; rw [if_neg (by omega), if_neg (by omega), if_neg (by omega), if_pos (by omega)]) rd
                  | exact tail e (by unfold pkS; rw [if_neg (by omega), if_neg (by omega), if_neg (by omega), if_neg (by omega)]) re
              · refine g_iload dX7_text_69 rfl ?_
                refine g_goto (tgt := 76) dX7_text_71 (by decide) ?_
                first
                  | exact tail a (by unfold pkS; rw [if_pos (by omega)]) ra
                  | exact tail b (by unfold pkS; rw [if_neg (by omega), if_pos (by omega)]) rb
                  | exact tail c (by unfold pkS; rw [if_neg (by omega), if_neg (by omega), if_pos (by omega)]) rc
                  | exact tail dd (by unfold pkS; rw [if_neg (by omega), if_neg (by omega), if_neg (by omega), if_pos (by omega)]) rd
                  | exact tail e (by unfold pkS; rw [if_neg (by omega), if_neg (by omega), if_neg (by omega), if_neg (by omega)]) re
            · refine g_iload_n dX7_text_58 rfl ?_
              refine g_goto (tgt := 76) dX7_text_59 (by decide) ?_
              first
                | exact tail a (by unfold pkS; rw [if_pos (by omega)]) ra
                | exact tail b (by unfold pkS; rw [if_neg (by omega), if_pos (by omega)]) rb
                | exact tail c (by unfold pkS; rw [if_neg (by omega), if_neg (by omega), if_pos (by omega)]) rc
                | exact tail dd (by unfold pkS; rw [if_neg (by omega), if_neg (by omega), if_neg (by omega), if_pos (by omega)]) rd
                | exact tail e (by unfold pkS; rw [if_neg (by omega), if_neg (by omega), if_neg (by omega), if_neg (by omega)]) re
          · refine g_iload_n dX7_text_47 rfl ?_
            refine g_goto (tgt := 76) dX7_text_48 (by decide) ?_
            first
              | exact tail a (by unfold pkS; rw [if_pos (by omega)]) ra
              | exact tail b (by unfold pkS; rw [if_neg (by omega), if_pos (by omega)]) rb
              | exact tail c (by unfold pkS; rw [if_neg (by omega), if_neg (by omega), if_pos (by omega)]) rc
              | exact tail dd (by unfold pkS; rw [if_neg (by omega), if_neg (by omega), if_neg (by omega), if_pos (by omega)]) rd
              | exact tail e (by unfold pkS; rw [if_neg (by omega), if_neg (by omega), if_neg (by omega), if_neg (by omega)]) re
        · refine g_iload_n dX7_text_36 rfl ?_
          refine g_goto (tgt := 76) dX7_text_37 (by decide) ?_
          first
            | exact tail a (by unfold pkS; rw [if_pos (by omega)]) ra
            | exact tail b (by unfold pkS; rw [if_neg (by omega), if_pos (by omega)]) rb
            | exact tail c (by unfold pkS; rw [if_neg (by omega), if_neg (by omega), if_pos (by omega)]) rc
            | exact tail dd (by unfold pkS; rw [if_neg (by omega), if_neg (by omega), if_neg (by omega), if_pos (by omega)]) rd
            | exact tail e (by unfold pkS; rw [if_neg (by omega), if_neg (by omega), if_neg (by omega), if_neg (by omega)]) re
  refine g_aload_n dX7_text_0 rfl ?_
  refine g_getI dX7_text_1 tf_7_166 rfl rfl ?_
  refine g_bipush dX7_text_4 (by decide) ?_
  refine g_iadd dX7_text_6 rfl ⟨by omega, by omega⟩ ?_
  refine g_sipush dX7_text_7 (by decide) ?_
  refine g_icmp_le (tgt := 20) dX7_text_10 (by decide) (fun c10 => ?_) (fun c10 => ?_)
  · refine g_iconst dX7_text_20 ⟨by decide, by decide⟩ ?_
    refine g_istore dX7_text_21 (by decide) rfl ?_
    exact loop (by omega) 20 0 rfl none
  · refine g_aload_n dX7_text_13 rfl ?_
    refine g_bipush dX7_text_14 (by decide) ?_
    refine g_callvI dX7_text_16 tm_7_133 rfl ⟨rfl, rfl⟩ rfl (Nat.le_of_ble_eq_true rfl) (cm_refuse (by omega) σ hf _ ⟨by omega, by omega⟩ hg.2.2) (fun z16 s16 h16 => ?_)
    obtain ⟨rfl, rfl⟩ := h16
    refine g_ireturn dX7_text_19 (Or.inl rfl) ⟨_, rfl, ?_⟩
    exact Or.inl ⟨by omega, rfl, rfl⟩
