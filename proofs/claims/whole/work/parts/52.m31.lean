/-! THE REFERENCE: reading lists and parts -/
theorem NmP.congr1 {t t' : TD} {T : Nat → Int × Int} {a b i j : Nat} (h : NmP t T a b i j) (he : ∀ k, a ≤ k → k < b → t'.1 k = t.1 k ∧ (t.1 k = 1 → t'.2.1 k = t.2.1 k)) : NmP t' T a b i j := by
  refine ⟨fun x x1 x2 x3 => ?_, fun l v l1 l2 l3 l4 => ?_⟩
  · obtain ⟨e1, e2⟩ := he x x1 x2
    rw [e1] at x3
    rw [e2 x3]
    exact h.1 x x1 x2 x3
  · obtain ⟨x, g1, g2, g3, g4⟩ := h.2 l v l1 l2 l3 l4
    obtain ⟨e1, e2⟩ := he x g1 g2
    exact ⟨x, g1, g2, by rw [e1]; exact g3, by rw [e2 g3]; exact g4⟩
theorem LI_num {oth n : Nat} {tx : Nat → Int} {f c i : Nat} {op num : Int} {σ : am_HS} {cs : List (Nat × (NDn × Bool))} {i' : Nat} {s : am_HS} (h : LI oth n tx f c i op num σ cs i' s) (h1 : op ≠ 1) {v : Int} (hv : rI v) (hc6 : c < 1600) : LI oth n tx f c i op v σ cs i' (uI s 18 (1600 * oth + c) v) := by
  obtain ⟨x1, f1, g1, c', g2, g3, g4, g5, g6, g7, g8, g9, g10, g11, g12, g13, g14, g15⟩ := h
  have fs : PFr oth c s (uI s 18 (1600 * oth + c) v) := (PFr.rf oth c s).u (by unfold scP; omega)
  have e : ∀ o k, ¬ (o = 18 ∧ k = 1600 * oth + c) → hI (uI s 18 (1600 * oth + c) v) o k = hI s o k := fun o k q => hI_uI_n q
  refine ⟨x1.of fs (x1.2.1.u (rg_free (by omega) hv)), f1.tr fs (Nat.le_refl _), g1, c', (e 0 36 (by omega)).trans g2, g3, g4, (e 17 _ (by omega)).trans g5, hI_uI_e hv, (e 20 _ (by omega)).trans g7, (e 22 _ (by omega)).trans g8, ?_, (e 21 _ (by omega)).trans g10, g11, ?_, ?_, ?_, ?_⟩
  · rw [e 19 _ (by omega)]; exact g9
  · rw [e 19 _ (by omega)]
    refine NdK_congr (t := tdM s) (fun a h' e' a1 a2 a3 => NdP_congr (t := tdM s) (fun k k1 k2 => ⟨e 17 k (by omega), e 18 k (by omega), e 19 k (by omega)⟩) (fun k k1 k2 => ⟨e 20 k (by omega), e 22 k (by omega)⟩) a3) (fun k k1 k2 => e 20 k (by omega)) g12
  · intro q hq
    obtain ⟨mid, _, b2, b3, b4⟩ := NdK_mem g12 q hq
    exact FlK_congr (t := tdM s) (e 17 _ (by omega)) (e 18 _ (by omega)) (e 22 _ (by omega)) (g13 q hq)
  · refine NmP.congr1 (t := tdM s) g14 (fun k k1 k2 => ⟨e 17 k (by omega), fun hk => ?_⟩)
    by_cases q : k = 1600 * oth + c
    · subst q
      exact absurd (g5.symm.trans hk) h1
    · exact e 18 k (by omega)
  · rw [e 27 _ (by omega)]; exact g15
/-- one more word that is no name -/
theorem LI_tok {oth n : Nat} {tx : Nat → Int} {f c i : Nat} {op num : Int} {σ : am_HS} {cs : List (Nat × (NDn × Bool))} {i' : Nat} {s : am_HS} (h : LI oth n tx f c i op num σ cs i' s) (h1 : (tkT tx n i').1 ≠ 2 ∨ fnS (tkT tx n i').2 ≠ 0) (h2 : tkT tx n i' ≠ (3, 45)) : LI oth n tx f c i op num σ cs (i' + 1) s := by
  obtain ⟨x1, f1, g1, c', g2, g3, g4, g5, g6, g7, g8, g9, g10, g11, g12, g13, g14, g15⟩ := h
  refine ⟨x1, f1, by omega, c', g2, g3, by omega, g5, g6, g7, g8, g9, g10, g11, g12, g13, ?_, ?_⟩
  · exact g14.app (NmP.skip h1) (by omega) (Nat.le_refl _) (by omega) (by omega)
  · rw [g15]
    constructor
    · rintro (q | ⟨l, l1, l2, l3⟩)
      · exact Or.inl q
      · exact Or.inr ⟨l, l1, by omega, l3⟩
    · rintro (q | ⟨l, l1, l2, l3⟩)
      · exact Or.inl q
      · refine Or.inr ⟨l, l1, ?_, l3⟩
        rcases Nat.lt_or_ge l i' with q | q
        · exact q
        · have : l = i' := by omega
          subst this
          exact absurd l3 h2
theorem ls_snoc {A B : Prop} {T : Nat → Int × Int} {i j : Nat} {v : Int × Int} (h : A ↔ B ∨ ∃ l, i ≤ l ∧ l < j ∧ T l = v) (hv : T j ≠ v) : A ↔ B ∨ ∃ l, i ≤ l ∧ l < j + 1 ∧ T l = v := by
  rw [h]
  constructor
  · rintro (q | ⟨l, l1, l2, l3⟩)
    · exact Or.inl q
    · exact Or.inr ⟨l, l1, by omega, l3⟩
  · rintro (q | ⟨l, l1, l2, l3⟩)
    · exact Or.inl q
    · refine Or.inr ⟨l, l1, ?_, l3⟩
      rcases Nat.lt_or_ge l j with q | q
      · exact q
      · have : l = j := by omega
        subst this
        exact absurd l3 hv
theorem nk2 {T : Nat → Int × Int} {i : Nat} {k : Int} (h : (T i).1 = k) (hk : k ≠ 3) : T i ≠ (3, 45) := fun e => hk (by rw [← h, e])
def SmK (oth n : Nat) (tx : Nat → Int) (f D1 : Nat) (deep : Int) : Option (Nat → PR) → Prop
  | none => deep = 8
  | some sum => deep ≠ 8 ∧ POK oth n tx f D1 mX7_sum 0 (deep + 1) sum
/-- a function's node, before its first part -/
def FnB (oth n : Nat) (tx : Nat → Int) (c i i1 : Nat) (op num : Int) (σ s : am_HS) : Prop := PFx oth n tx s ∧ PFr oth c σ s ∧ hI s 0 36 = ((c + 1 : Nat) : Int) ∧ hI s 17 (1600 * oth + c) = op ∧ hI s 18 (1600 * oth + c) = num ∧ hI s 19 (1600 * oth + c) = -1 ∧ hI s 20 (1600 * oth + c) = -1 ∧ hI s 22 (1600 * oth + c) = 0 ∧ NmP (tdM s) (tkT tx n) (1600 * oth + c) (1600 * oth + c + 1) i i1 ∧ (hI s 27 oth = 1 ↔ hI σ 27 oth = 1 ∨ ∃ l, i ≤ l ∧ l < i1 ∧ tkT tx n l = (3, 45))
theorem FnB.w {oth n : Nat} {tx : Nat → Int} {c i i1 : Nat} {op num : Int} {σ s u : am_HS} (h : FnB oth n tx c i i1 op num σ s) (w : FrW s u) (x : PFx oth n tx u) (hi : i ≤ i1) (h1 : (tkT tx n i1).1 ≠ 2 ∨ fnS (tkT tx n i1).2 ≠ 0) (h2 : tkT tx n i1 ≠ (3, 45)) : FnB oth n tx c i (i1 + 1) op num σ u := by
  obtain ⟨x1, f1, g1, g2, g3, g4, g5, g6, g7, g8⟩ := h
  have e : ∀ o k, ¬ (o = 0 ∧ 24 ≤ k ∧ k ≤ 27) → hI u o k = hI s o k := w.2
  refine ⟨x, f1.tr w.pf (Nat.le_refl _), (e _ _ (by omega)).trans g1, (e _ _ (by omega)).trans g2, (e _ _ (by omega)).trans g3, (e _ _ (by omega)).trans g4, (e _ _ (by omega)).trans g5, (e _ _ (by omega)).trans g6, ?_, ?_⟩
  · exact (NmP.congr (t := tdM s) g7 (fun k _ _ => ⟨e 17 k (by omega), e 18 k (by omega)⟩)).app (NmP.skip h1) (by omega) (Nat.le_refl _) hi (by omega)
  · rw [e 27 _ (by omega)]
    exact ls_snoc g8 h2
theorem FnB.n {oth n : Nat} {tx : Nat → Int} {c i i1 : Nat} {op num : Int} {σ s : am_HS} (h : FnB oth n tx c i i1 op num σ s) (hop : op ≠ 1) {v : Int} (hv : rI v) (hc6 : c < 1600) : FnB oth n tx c i i1 op v σ (uI s 18 (1600 * oth + c) v) := by
  obtain ⟨x1, f1, g1, g2, g3, g4, g5, g6, g7, g8⟩ := h
  have fs : PFr oth c s (uI s 18 (1600 * oth + c) v) := (PFr.rf oth c s).u (by unfold scP; omega)
  have e : ∀ o k, ¬ (o = 18 ∧ k = 1600 * oth + c) → hI (uI s 18 (1600 * oth + c) v) o k = hI s o k := fun o k q => hI_uI_n q
  refine ⟨x1.of fs (x1.2.1.u (rg_free (by omega) hv)), f1.tr fs (Nat.le_refl _), (e 0 36 (by omega)).trans g1, (e 17 _ (by omega)).trans g2, hI_uI_e hv, (e 19 _ (by omega)).trans g4, (e 20 _ (by omega)).trans g5, (e 22 _ (by omega)).trans g6, ?_, ?_⟩
  · refine NmP.congr1 (t := tdM s) g7 (fun k k1 k2 => ⟨e 17 k (by omega), fun hk => ?_⟩)
    have q : k = 1600 * oth + c := by omega
    subst q
    exact absurd (g2.symm.trans hk) hop
  · rw [e 27 _ (by omega)]; exact g8

theorem list_end {oth n f D1 : Nat} {tx : Nat → Int} {deep : Int} (hD : 3 ≤ D1) {i c : Nat} {op : Int} {σ : am_HS} (hop : 4 ≤ op ∧ op ≤ 10) (hc6 : c + 1 < 1600) (num : Int) (hnum : 0 ≤ num ∧ num ≤ 9999) (cs : List (Nat × (NDn × Bool))) (h10 : cs.length ≤ 10) (h9 : 9 ≤ op → cs.length = 1) (i' : Nat) (s : am_HS) (o4 : Option am_V) (hL : LI oth n tx f c i op num σ cs i' s) (hp : PFi tx n i' s) : am_Go lm D1 7 5 1 cX7_list 188 [some (vR (some 0)), some (vI ((1600 * oth + c : Nat) : Int)), some (vI op), some (vI deep), o4] [] s (qI fun z u => PQ oth n tx (f + 1) c i σ (if tkT tx n i' = (3, 41) then .inr (cmbL op num (cs.map (fun q => q.2)), i' + 1) else .inl i') z u) := by
  have hx := hL.1
  refine g_aload_n dX7_list_188 rfl ?_
  refine g_bipush dX7_list_189 (by decide) ?_
  refine g_callvV dX7_list_191 tm_7_229 rfl ⟨rfl, rfl⟩ rfl (Nat.le_of_ble_eq_true rfl) (cm_mustP (by omega) s hx hp 41) (fun s191 h191 => ?_)
  obtain ⟨hx191, h191⟩ := h191
  rcases h191 with ⟨hT, w, hp2⟩ | ⟨hT, fr2, h29⟩
  · rw [if_pos hT]
    have hp29 := hp2.2.2
    refine g_aload_n dX7_list_194 rfl ?_
    refine g_callvI dX7_list_195 tm_7_193 rfl ⟨rfl, rfl⟩ rfl (Nat.le_of_ble_eq_true rfl) (cm_isFine (by omega) _) (fun z195 s195 h195 => ?_)
    obtain ⟨h195, e195⟩ := h195
    obtain rfl := e195.symm
    refine g_if_eq (tgt := 205) dX7_list_198 (by decide) (fun c198 => ?_) (fun c198 => ?_)
    · exfalso; omega
    · refine g_iload_n dX7_list_201 rfl ?_
      refine g_goto (tgt := 206) dX7_list_202 (by decide) ?_
      refine g_ireturn dX7_list_206 (Or.inl rfl) ⟨_, rfl, ?_⟩
      exact LI_end (LI_tok (LI_W hL w hx191) (nn3 hT) (by rw [hT]; exact ne3 (by decide))) hp2 (by omega) hnum (fun _ => h10) h9
  · rw [if_neg hT]
    refine g_aload_n dX7_list_194 rfl ?_
    refine g_callvI dX7_list_195 tm_7_193 rfl ⟨rfl, rfl⟩ rfl (Nat.le_of_ble_eq_true rfl) (cm_isFine (by omega) _) (fun z195 s195 h195 => ?_)
    obtain ⟨h195, e195⟩ := h195
    obtain rfl := e195.symm
    refine g_if_eq (tgt := 205) dX7_list_198 (by decide) (fun c198 => ?_) (fun c198 => ?_)
    · refine g_iconst dX7_list_205 ⟨by decide, by decide⟩ ?_
      refine g_ireturn dX7_list_206 (Or.inl rfl) ⟨_, rfl, ?_⟩
      exact ⟨hx191, hL.2.1.tr (fr2 c) (Nat.le_refl _), rfl, h29⟩
    · exfalso; omega
theorem list_bad {oth n f D1 : Nat} {tx : Nat → Int} {deep : Int} (hD : 3 ≤ D1) {i c : Nat} {op : Int} {σ : am_HS} (g : Nat) (s : am_HS) (hx : PFx oth n tx s) (fr : PFr oth c σ s) (h29 : hI s 0 29 = (plT tx n g : Int)) (o4 : Option am_V) : am_Go lm D1 7 5 1 cX7_list 75 [some (vR (some 0)), some (vI ((1600 * oth + c : Nat) : Int)), some (vI op), some (vI deep), o4] [] s (qI fun z u => PQ oth n tx (f + 1) c i σ (.inl g) z u) := by
  have h290 : 0 ≤ hI s 0 29 := by omega
  refine g_iload_n dX7_list_75 rfl ?_
  refine g_bipush dX7_list_76 (by decide) ?_
  refine g_icmp_eq (tgt := 87) dX7_list_78 (by decide) (fun c78 => ?_) (fun c78 => ?_)
  · refine g_aload_n dX7_list_87 rfl ?_
    refine g_bipush dX7_list_88 (by decide) ?_
    refine g_callvV dX7_list_90 tm_7_229 rfl ⟨rfl, rfl⟩ rfl (Nat.le_of_ble_eq_true rfl) (cm_mustN (by omega) s h290 _) (fun s90 h90 => ?_)
    obtain rfl := h90
    refine g_aload_n dX7_list_93 rfl ?_
    refine g_callvI dX7_list_94 tm_7_193 rfl ⟨rfl, rfl⟩ rfl (Nat.le_of_ble_eq_true rfl) (cm_isFine (by omega) _) (fun z94 s94 h94 => ?_)
    obtain ⟨h94, e94⟩ := h94
    obtain rfl := e94.symm
    refine g_if_ne (tgt := 102) dX7_list_97 (by decide) (fun c97 => ?_) (fun c97 => ?_)
    · exfalso; omega
    · refine g_iconst dX7_list_100 ⟨by decide, by decide⟩ ?_
      refine g_ireturn dX7_list_101 (Or.inl rfl) ⟨_, rfl, ?_⟩
      exact ⟨hx, fr, rfl, h29⟩
  · refine g_iload_n dX7_list_81 rfl ?_
    refine g_bipush dX7_list_82 (by decide) ?_
    refine g_icmp_ne (tgt := 129) dX7_list_84 (by decide) (fun c84 => ?_) (fun c84 => ?_)
    · refine g_iconst dX7_list_129 ⟨by decide, by decide⟩ ?_
      refine g_istore dX7_list_130 (by decide) rfl ?_
      refine g_aload_n dX7_list_132 rfl ?_
      refine g_callvI dX7_list_133 tm_7_193 rfl ⟨rfl, rfl⟩ rfl (Nat.le_of_ble_eq_true rfl) (cm_isFine (by omega) _) (fun z133 s133 h133 => ?_)
      obtain ⟨h133, e133⟩ := h133
      obtain rfl := e133.symm
      refine g_if_eq (tgt := 188) dX7_list_136 (by decide) (fun c136 => ?_) (fun c136 => ?_)
      · refine g_aload_n dX7_list_188 rfl ?_
        refine g_bipush dX7_list_189 (by decide) ?_
        refine g_callvV dX7_list_191 tm_7_229 rfl ⟨rfl, rfl⟩ rfl (Nat.le_of_ble_eq_true rfl) (cm_mustN (by omega) s h290 _) (fun s191 h191 => ?_)
        obtain rfl := h191
        refine g_aload_n dX7_list_194 rfl ?_
        refine g_callvI dX7_list_195 tm_7_193 rfl ⟨rfl, rfl⟩ rfl (Nat.le_of_ble_eq_true rfl) (cm_isFine (by omega) _) (fun z195 s195 h195 => ?_)
        obtain ⟨h195, e195⟩ := h195
        obtain rfl := e195.symm
        refine g_if_eq (tgt := 205) dX7_list_198 (by decide) (fun c198 => ?_) (fun c198 => ?_)
        · refine g_iconst dX7_list_205 ⟨by decide, by decide⟩ ?_
          refine g_ireturn dX7_list_206 (Or.inl rfl) ⟨_, rfl, ?_⟩
          exact ⟨hx, fr, rfl, h29⟩
        · exfalso; omega
      · exfalso; omega
    · refine g_aload_n dX7_list_87 rfl ?_
      refine g_bipush dX7_list_88 (by decide) ?_
      refine g_callvV dX7_list_90 tm_7_229 rfl ⟨rfl, rfl⟩ rfl (Nat.le_of_ble_eq_true rfl) (cm_mustN (by omega) s h290 _) (fun s90 h90 => ?_)
      obtain rfl := h90
      refine g_aload_n dX7_list_93 rfl ?_
      refine g_callvI dX7_list_94 tm_7_193 rfl ⟨rfl, rfl⟩ rfl (Nat.le_of_ble_eq_true rfl) (cm_isFine (by omega) _) (fun z94 s94 h94 => ?_)
      obtain ⟨h94, e94⟩ := h94
      obtain rfl := e94.symm
      refine g_if_ne (tgt := 102) dX7_list_97 (by decide) (fun c97 => ?_) (fun c97 => ?_)
      · exfalso; omega
      · refine g_iconst dX7_list_100 ⟨by decide, by decide⟩ ?_
        refine g_ireturn dX7_list_101 (Or.inl rfl) ⟨_, rfl, ?_⟩
        exact ⟨hx, fr, rfl, h29⟩
theorem list_bad2 {oth n f D1 : Nat} {tx : Nat → Int} {deep : Int} (hD : 3 ≤ D1) {i c : Nat} {op : Int} {σ : am_HS} (g : Nat) (s : am_HS) (hx : PFx oth n tx s) (fr : PFr oth c σ s) (h29 : hI s 0 29 = (plT tx n g : Int)) (o4 : Option am_V) : am_Go lm D1 7 5 1 cX7_list 132 [some (vR (some 0)), some (vI ((1600 * oth + c : Nat) : Int)), some (vI op), some (vI deep), o4] [] s (qI fun z u => PQ oth n tx (f + 1) c i σ (.inl g) z u) := by
  have h290 : 0 ≤ hI s 0 29 := by omega
  refine g_aload_n dX7_list_132 rfl ?_
  refine g_callvI dX7_list_133 tm_7_193 rfl ⟨rfl, rfl⟩ rfl (Nat.le_of_ble_eq_true rfl) (cm_isFine (by omega) _) (fun z133 s133 h133 => ?_)
  obtain ⟨h133, e133⟩ := h133
  obtain rfl := e133.symm
  refine g_if_eq (tgt := 188) dX7_list_136 (by decide) (fun c136 => ?_) (fun c136 => ?_)
  · refine g_aload_n dX7_list_188 rfl ?_
    refine g_bipush dX7_list_189 (by decide) ?_
    refine g_callvV dX7_list_191 tm_7_229 rfl ⟨rfl, rfl⟩ rfl (Nat.le_of_ble_eq_true rfl) (cm_mustN (by omega) s h290 _) (fun s191 h191 => ?_)
    obtain rfl := h191
    refine g_aload_n dX7_list_194 rfl ?_
    refine g_callvI dX7_list_195 tm_7_193 rfl ⟨rfl, rfl⟩ rfl (Nat.le_of_ble_eq_true rfl) (cm_isFine (by omega) _) (fun z195 s195 h195 => ?_)
    obtain ⟨h195, e195⟩ := h195
    obtain rfl := e195.symm
    refine g_if_eq (tgt := 205) dX7_list_198 (by decide) (fun c198 => ?_) (fun c198 => ?_)
    · refine g_iconst dX7_list_205 ⟨by decide, by decide⟩ ?_
      refine g_ireturn dX7_list_206 (Or.inl rfl) ⟨_, rfl, ?_⟩
      exact ⟨hx, fr, rfl, h29⟩
    · exfalso; omega
  · exfalso; omega
theorem list_loop {oth n f D1 : Nat} {tx : Nat → Int} {deep : Int} (hD : 3 ≤ D1) (hdp : 0 ≤ deep ∧ deep ≤ 8) {i c : Nat} {op : Int} {σ : am_HS} (hop : 4 ≤ op ∧ op ≤ 10) (hc6 : c + 1 < 1600) (hop9 : op < 9) (num : Int) (hnum : 0 ≤ num ∧ num ≤ 9999) (sum : Nat → PR) (hsum : POK oth n tx f D1 mX7_sum 0 (deep + 1) sum) : ∀ (m i' : Nat) (cs : List (Nat × (NDn × Bool))) (s : am_HS), cs.length ≤ 10 → LI oth n tx f c i op num σ cs i' s → PFi tx n i' s → 650 ≤ i' + m → am_Go lm D1 7 5 1 cX7_list 132 [some (vR (some 0)), some (vI ((1600 * oth + c : Nat) : Int)), some (vI op), some (vI deep), some (vI (cs.length : Int))] [] s (qI fun z u => PQ oth n tx (f + 1) c i σ (pLC sum (tkT tx n) op num m (cs.map (fun q => q.2)) i') z u) := by
  intro m
  induction m with
  | zero =>
    intro i' cs s hlen hL hp hm
    have := hp.le
    have := hL.1.2.2.2.2.2.2
    exfalso; omega
  | succ m ih =>
    intro i' cs s hlen hL hp hm
    have hp29 := hp.2.2
    have hpl := hp.le
    have hx := hL.1
    have hnn : n ≤ 600 := hx.2.2.2.2.2.2
    have hoth : oth < 2 := hx.2.2.2.2.2.1
    have hf : s.2.2 = mH := hx.1
    obtain ⟨fr, hlt, c1, h36, hcc, hcb, k17, k18, k20, k22, k19, k21, hne, hK, hFl, hNm, hLs⟩ := hL.2
    obtain ⟨lr1, lr2⟩ := lsK_r (d := 0) hne hK
    generalize hR : pLC sum (tkT tx n) op num (m + 1) (cs.map (fun q => q.2)) i' = R
    unfold pLC at hR
    by_cases hm44 : tkT tx n i' = (3, 44)
    · rw [if_pos hm44] at hR
      refine g_aload_n dX7_list_132 rfl ?_
      refine g_callvI dX7_list_133 tm_7_193 rfl ⟨rfl, rfl⟩ rfl (Nat.le_of_ble_eq_true rfl) (cm_isFine (by omega) _) (fun z133 s133 h133 => ?_)
      obtain ⟨h133, e133⟩ := h133
      obtain rfl := e133.symm
      refine g_if_eq (tgt := 188) dX7_list_136 (by decide) (fun c136 => ?_) (fun c136 => ?_)
      · exfalso; omega
      · refine g_iload_n dX7_list_139 rfl ?_
        refine g_bipush dX7_list_140 (by decide) ?_
        refine g_icmp_ge (tgt := 188) dX7_list_142 (by decide) (fun c142 => ?_) (fun c142 => ?_)
        · exfalso; omega
        · refine g_aload_n dX7_list_145 rfl ?_
          refine g_bipush dX7_list_146 (by decide) ?_
          refine g_callvI dX7_list_148 tm_7_197 rfl ⟨rfl, rfl⟩ rfl (Nat.le_of_ble_eq_true rfl) (cm_isSignP (by omega) _ hp 44) (fun z148 s148 h148 => ?_)
          obtain ⟨h148, e148⟩ := h148
          obtain rfl := e148.symm
          have y148 : z148 = 1 := by rcases h148 with ⟨a, b⟩ | ⟨a, b⟩; exact a; exact absurd (hm44) b
          clear h148
          refine g_if_eq (tgt := 188) dX7_list_151 (by decide) (fun c151 => ?_) (fun c151 => ?_)
          · exfalso; omega
          · refine g_iload dX7_list_154 rfl ?_
            refine g_bipush dX7_list_156 (by decide) ?_
            refine g_icmp_ne (tgt := 166) dX7_list_158 (by decide) (fun c158 => ?_) (fun c158 => ?_)
            · refine g_aload_n dX7_list_166 rfl ?_
              refine g_callvV dX7_list_167 tm_7_200 rfl ⟨rfl, rfl⟩ rfl (Nat.le_of_ble_eq_true rfl) (cm_readsP (by omega) s hx hp (tk3 hm44)) (fun s167 h167 => ?_)
              obtain ⟨w50, hx50, hp50⟩ := h167
              have q36 : hI s167 0 36 = (c1 : Int) := (w50.2 0 36 (by omega)).trans h36
              rw [if_neg (by rw [List.length_map]; omega)] at hR
              refine g_aload_n dX7_list_170 rfl ?_
              refine g_iload_n dX7_list_171 rfl ?_
              refine g_aload_n dX7_list_172 rfl ?_
              refine g_iload_n dX7_list_173 rfl ?_
              refine g_iconst dX7_list_174 ⟨by decide, by decide⟩ ?_
              refine g_iadd dX7_list_175 rfl ⟨by omega, by omega⟩ ?_
              refine g_callvI dX7_list_176 tm_7_226 rfl ⟨rfl, rfl⟩ rfl (Nat.le_of_ble_eq_true rfl) (hsum (i' + 1) c1 s167 hx50 hp50 q36 (by omega)) (fun z176 s176 h176 => ?_)
              have hx61 := h176.1
              have fr61 := h176.2.1
              have hf61 : s176.2.2 = mH := hx61.1
              have f2 : PFr oth c1 s s176 := w50.pf.tr fr61 (Nat.le_refl _)
              rcases hone1 : sum (i' + 1) with g | q
              · rw [hone1] at hR h176
                obtain ⟨-, -, rfl, p29⟩ := h176
                obtain rfl : Sum.inl g = R := hR
                refine g_callvV dX7_list_179 tm_7_219 rfl ⟨rfl, rfl⟩ rfl (Nat.le_of_ble_eq_true rfl) (cm_addsN (by omega) s176 _ _ (by omega)) (fun s179 h179 => ?_)
                obtain rfl := h179
                refine g_iinc dX7_list_182 (by decide) rfl ⟨by omega, by omega⟩ rfl rfl ?_
                refine g_goto (tgt := 132) dX7_list_185 (by decide) ?_
                exact list_bad2 hD g _ hx61 (fr.tr f2 (by omega)) p29 _
              · rw [hone1] at hR h176
                obtain ⟨-, -, p1, p2, rfl, p4, p5, c2, p6, p7, p8, p9, p10, p11⟩ := h176
                have q19 : hI s176 19 (1600 * oth + c) = hI s 19 (1600 * oth + c) := f2.o (by omega)
                have q21 : hI s176 21 (1600 * oth + c) = hI s 21 (1600 * oth + c) := f2.o (by omega)
                have q27 : hI s167 27 oth = hI s 27 oth := w50.2 27 oth (by omega)
                have hLn := LI_addN hL h36 hx61 f2 (j := q.2) (b := 0) (fl := false) (by omega) p6 p7 p8 (by have := p1.le; omega) p9 p4 ((NmP.skip (nn3 hm44)).app p10 (Nat.le_refl _) (by omega) (by omega) (by omega)) (ls_skip (by rw [p11, q27]) (by rw [hm44]; exact ne3 (by decide))) (by omega) (FlB_f _ _ _) p5
                refine g_callvV dX7_list_179 tm_7_219 rfl ⟨rfl, rfl⟩ rfl (Nat.le_of_ble_eq_true rfl) (cm_addsL (by omega) s176 hf61 _ _ (lsK 0 cs) (by omega) (by omega) (by omega) (by omega)) (fun s179 h179 => ?_)
                obtain rfl := h179
                refine g_iinc dX7_list_182 (by decide) rfl ⟨by omega, by omega⟩ (show (cs.length : Int) + 1 = ((cs.length + 1 : Nat) : Int) from by omega) rfl ?_
                refine g_goto (tgt := 132) dX7_list_185 (by decide) ?_
                have hR2 : pLC sum (tkT tx n) op num m (cs.map (fun q => q.2) ++ [(q.1, false)]) q.2 = R := hR
                have hfin := ih q.2 _ _ (by rw [List.length_append]; show cs.length + 1 ≤ 10; omega) hLn.1 (hLn.2 p1) (by omega)
                simp only [List.map_append, List.map_cons, List.map_nil, List.length_append, List.length_cons, List.length_nil, Nat.zero_add] at hfin
                rw [hR2] at hfin
                exact hfin
            · refine g_aload_n dX7_list_161 rfl ?_
              refine g_callvI dX7_list_162 tm_7_203 rfl ⟨rfl, rfl⟩ rfl (Nat.le_of_ble_eq_true rfl) (cm_faultsP (by omega) s hx hp) (fun z162 s162 h162 => ?_)
              refine g_ireturn dX7_list_165 (Or.inl rfl) ⟨_, rfl, ?_⟩
              rw [if_pos (by rw [List.length_map]; omega)] at hR
              obtain rfl : Sum.inl i' = R := hR
              exact ⟨h162.2.1, fr.tr (h162.2.2.1 c) (Nat.le_refl _), h162.1, h162.2.2.2⟩
    · rw [if_neg hm44] at hR
      refine g_aload_n dX7_list_132 rfl ?_
      refine g_callvI dX7_list_133 tm_7_193 rfl ⟨rfl, rfl⟩ rfl (Nat.le_of_ble_eq_true rfl) (cm_isFine (by omega) _) (fun z133 s133 h133 => ?_)
      obtain ⟨h133, e133⟩ := h133
      obtain rfl := e133.symm
      refine g_if_eq (tgt := 188) dX7_list_136 (by decide) (fun c136 => ?_) (fun c136 => ?_)
      · exfalso; omega
      · refine g_iload_n dX7_list_139 rfl ?_
        refine g_bipush dX7_list_140 (by decide) ?_
        refine g_icmp_ge (tgt := 188) dX7_list_142 (by decide) (fun c142 => ?_) (fun c142 => ?_)
        · exfalso; omega
        · refine g_aload_n dX7_list_145 rfl ?_
          refine g_bipush dX7_list_146 (by decide) ?_
          refine g_callvI dX7_list_148 tm_7_197 rfl ⟨rfl, rfl⟩ rfl (Nat.le_of_ble_eq_true rfl) (cm_isSignP (by omega) _ hp 44) (fun z148 s148 h148 => ?_)
          obtain ⟨h148, e148⟩ := h148
          obtain rfl := e148.symm
          have y148 : z148 = 0 := by rcases h148 with ⟨a, b⟩ | ⟨a, b⟩; exact absurd b (hm44); exact a
          clear h148
          refine g_if_eq (tgt := 188) dX7_list_151 (by decide) (fun c151 => ?_) (fun c151 => ?_)
          · rw [← hR]
            exact list_end hD hop hc6 num hnum cs hlen (by omega) i' s _ hL hp
          · exfalso; omega
theorem list_par {oth n f D1 : Nat} {tx : Nat → Int} {deep : Int} (hD : 3 ≤ D1) (hdp : 0 ≤ deep ∧ deep ≤ 8) {i c : Nat} {op : Int} {σ : am_HS} (hop : 4 ≤ op ∧ op ≤ 10) (hc6 : c + 1 < 1600) (num : Int) (hnum : 0 ≤ num ∧ num ≤ 9999) (sm : Option (Nat → PR)) (hsm : SmK oth n tx f D1 deep sm) (i1 : Nat) (hi1 : i < i1) (hcb : c + 1 ≤ 2 * i1 + 2) (s : am_HS) (hB : FnB oth n tx c i i1 op num σ s) (hp : PFi tx n i1 s) : am_Go lm D1 7 5 1 cX7_list 39 [some (vR (some 0)), some (vI ((1600 * oth + c : Nat) : Int)), some (vI op), some (vI deep), none] [] s (qI fun z u => PQ oth n tx (f + 1) c i σ (pLj sm (tkT tx n) op num i1) z u) := by
  have hpl := hp.le
  have hx := hB.1
  have hnn : n ≤ 600 := hx.2.2.2.2.2.2
  have hoth : oth < 2 := hx.2.2.2.2.2.1
  have hf : s.2.2 = mH := hx.1
  generalize hR : pLj sm (tkT tx n) op num i1 = R
  unfold pLj at hR
  by_cases h40 : tkT tx n i1 = (3, 40)
  · rw [if_pos h40] at hR
    rcases sm with _ | sum
    · have hd8 : deep = 8 := hsm
      obtain rfl : Sum.inl i1 = R := hR
      refine g_aload_n dX7_list_39 rfl ?_
      refine g_bipush dX7_list_40 (by decide) ?_
      refine g_callvI dX7_list_42 tm_7_197 rfl ⟨rfl, rfl⟩ rfl (Nat.le_of_ble_eq_true rfl) (cm_isSignP (by omega) _ hp 40) (fun z42 s42 h42 => ?_)
      obtain ⟨h42, e42⟩ := h42
      obtain rfl := e42.symm
      have y42 : z42 = 1 := by rcases h42 with ⟨a, b⟩ | ⟨a, b⟩; exact a; exact absurd (h40) b
      clear h42
      refine g_if_eq (tgt := 54) dX7_list_45 (by decide) (fun c45 => ?_) (fun c45 => ?_)
      · exfalso; omega
      · refine g_iload_n dX7_list_48 rfl ?_
        refine g_bipush dX7_list_49 (by decide) ?_
        refine g_icmp_ne (tgt := 59) dX7_list_51 (by decide) (fun c51 => ?_) (fun c51 => ?_)
        · exfalso; omega
        · refine g_aload_n dX7_list_54 rfl ?_
          refine g_callvI dX7_list_55 tm_7_203 rfl ⟨rfl, rfl⟩ rfl (Nat.le_of_ble_eq_true rfl) (cm_faultsP (by omega) s hx hp) (fun z55 s55 h55 => ?_)
          refine g_ireturn dX7_list_58 (Or.inl rfl) ⟨_, rfl, ?_⟩
          exact ⟨h55.2.1, hB.2.1.tr (h55.2.2.1 c) (Nat.le_refl _), h55.1, h55.2.2.2⟩
    · obtain ⟨hd8, hsum⟩ := hsm
      refine g_aload_n dX7_list_39 rfl ?_
      refine g_bipush dX7_list_40 (by decide) ?_
      refine g_callvI dX7_list_42 tm_7_197 rfl ⟨rfl, rfl⟩ rfl (Nat.le_of_ble_eq_true rfl) (cm_isSignP (by omega) _ hp 40) (fun z42 s42 h42 => ?_)
      obtain ⟨h42, e42⟩ := h42
      obtain rfl := e42.symm
      have y42 : z42 = 1 := by rcases h42 with ⟨a, b⟩ | ⟨a, b⟩; exact a; exact absurd (h40) b
      clear h42
      refine g_if_eq (tgt := 54) dX7_list_45 (by decide) (fun c45 => ?_) (fun c45 => ?_)
      · exfalso; omega
      · refine g_iload_n dX7_list_48 rfl ?_
        refine g_bipush dX7_list_49 (by decide) ?_
        refine g_icmp_ne (tgt := 59) dX7_list_51 (by decide) (fun c51 => ?_) (fun c51 => ?_)
        · refine g_aload_n dX7_list_59 rfl ?_
          refine g_callvV dX7_list_60 tm_7_200 rfl ⟨rfl, rfl⟩ rfl (Nat.le_of_ble_eq_true rfl) (cm_readsP (by omega) s hx hp (tk3 h40)) (fun s60 h60 => ?_)
          obtain ⟨w50, hx50, hp50⟩ := h60
          have hB2 := hB.w w50 hx50 (by omega) (nn3 h40) (by rw [h40]; exact ne3 (by decide))
          refine g_aload_n dX7_list_63 rfl ?_
          refine g_iload_n dX7_list_64 rfl ?_
          refine g_aload_n dX7_list_65 rfl ?_
          refine g_iload_n dX7_list_66 rfl ?_
          refine g_iconst dX7_list_67 ⟨by decide, by decide⟩ ?_
          refine g_iadd dX7_list_68 rfl ⟨by omega, by omega⟩ ?_
          refine g_callvI dX7_list_69 tm_7_226 rfl ⟨rfl, rfl⟩ rfl (Nat.le_of_ble_eq_true rfl) (hsum (i1 + 1) (c + 1) s60 hx50 hp50 hB2.2.2.1 (by omega)) (fun z69 s69 h69 => ?_)
          have hx61 := h69.1
          have fr61 := h69.2.1
          have hf61 : s69.2.2 = mH := hx61.1
          rcases hone1 : sum (i1 + 1) with g | q
          · simp only [hone1] at hR
            rw [hone1] at h69
            obtain ⟨-, -, rfl, p29⟩ := h69
            obtain rfl : Sum.inl g = R := hR
            refine g_callvV dX7_list_72 tm_7_219 rfl ⟨rfl, rfl⟩ rfl (Nat.le_of_ble_eq_true rfl) (cm_addsN (by omega) s69 _ _ (by omega)) (fun s72 h72 => ?_)
            obtain rfl := h72
            exact list_bad hD g _ hx61 (hB2.2.1.tr fr61 (by omega)) p29 _
          · simp only [hone1] at hR
            rw [hone1] at h69
            obtain ⟨b1, b2, b3, b4, b5, b6, b7, b8, b9, b10⟩ := hB2
            have q19 : hI s69 19 (1600 * oth + c) = -1 := (fr61.o (by omega)).trans b6
            have hz11 : z69 = ((1600 * oth + c + 1 : Nat) : Int) := by rw [h69.2.2.2.2.1]; omega
            have hle11 := h69.2.2.1.le
            have hLf := LI_first b2 (by omega) b4 b5 b7 b8 b9 b10 h69 (by omega)
            subst hz11
            refine g_callvV dX7_list_72 tm_7_219 rfl ⟨rfl, rfl⟩ rfl (Nat.le_of_ble_eq_true rfl) (cm_addsF (by omega) s69 hf61 _ _ (by omega) (by omega)) (fun s72 h72 => ?_)
            obtain rfl := h72
            generalize hcs : [(1600 * oth + c + 1, (q.1, false))] = cs at *
            have hlen : cs.length = 1 := by rw [← hcs]; rfl
            have hmap : cs.map (fun q => q.2) = [(q.1, false)] := by rw [← hcs]; rfl
            obtain ⟨hL1, hp1⟩ := hLf
            generalize uI (uI s69 19 (1600 * oth + c) ((1600 * oth + c + 1 : Nat) : Int)) 21 (1600 * oth + c) ((1600 * oth + c + 1 : Nat) : Int) = s3 at *
            have hx3 := hL1.1
            have hp29 := hp1.2.2
            by_cases h9 : 9 ≤ op
            · rw [if_pos h9] at hR
              refine g_iload_n dX7_list_75 rfl ?_
              refine g_bipush dX7_list_76 (by decide) ?_
              refine g_icmp_eq (tgt := 87) dX7_list_78 (by decide) (fun c78 => ?_) (fun c78 => ?_)
              · refine g_aload_n dX7_list_87 rfl ?_
                refine g_bipush dX7_list_88 (by decide) ?_
                refine g_callvV dX7_list_90 tm_7_229 rfl ⟨rfl, rfl⟩ rfl (Nat.le_of_ble_eq_true rfl) (cm_mustP (by omega) s3 hx3 hp1 44) (fun s90 h90 => ?_)
                obtain ⟨hx90, h90⟩ := h90
                rcases h90 with ⟨hT, w, hp2⟩ | ⟨hT, fr2, h29⟩
                · rw [if_pos hT] at hR
                  have hL2 := LI_tok (LI_W hL1 w hx90) (nn3 hT) (by rw [hT]; exact ne3 (by decide))
                  have hp292 := hp2.2.2
                  have hw2 := hp2.w
                  have hnum2 := tkT_num (tx := tx) (n := n) (i := q.2 + 1)
                  have hf90 : s90.2.2 = mH := hx90.1
                  have hf := hf90
                  refine g_aload_n dX7_list_93 rfl ?_
                  refine g_callvI dX7_list_94 tm_7_193 rfl ⟨rfl, rfl⟩ rfl (Nat.le_of_ble_eq_true rfl) (cm_isFine (by omega) _) (fun z94 s94 h94 => ?_)
                  obtain ⟨h94, e94⟩ := h94
                  obtain rfl := e94.symm
                  refine g_if_ne (tgt := 102) dX7_list_97 (by decide) (fun c97 => ?_) (fun c97 => ?_)
                  · refine g_aload_n dX7_list_102 rfl ?_
                    refine g_getI dX7_list_103 tf_7_181 rfl rfl ?_
                    refine g_iconst dX7_list_106 ⟨by decide, by decide⟩ ?_
                    refine g_icmp_eq (tgt := 115) dX7_list_107 (by decide) (fun c107 => ?_) (fun c107 => ?_)
                    · have hd1 : (tkT tx n (q.2 + 1)).1 = 1 := by omega
                      have hv := hp2.v (by rw [hd1]; decide)
                      have hn2 := hnum2 hd1
                      rw [if_pos hd1] at hR
                      refine g_aload_n dX7_list_115 rfl ?_
                      refine g_getA dX7_list_116 tf_7_62 rfl rfl (mrf hf rfl) ?_
                      refine g_iload_n dX7_list_119 rfl ?_
                      refine g_aload_n dX7_list_120 rfl ?_
                      refine g_getI dX7_list_121 tf_7_178 rfl rfl ?_
                      rw [hv]
                      generalize hnu : (tkT tx n (q.2 + 1)).2 = v at *
                      refine g_iastN (1600 * oth + c) dX7_list_124 rfl (by omega) (by omega) ?_
                      have hL3 := LI_num hL2 (by omega) (v := v) ⟨by omega, by omega⟩ (by omega)
                      have hp3 : PFi tx n (q.2 + 1) (uI s90 18 (1600 * oth + c) v) := hp2.of (fun k hk => hI_uI_n (by omega))
                      refine g_aload_n dX7_list_125 rfl ?_
                      refine g_callvV dX7_list_126 tm_7_200 rfl ⟨rfl, rfl⟩ rfl (Nat.le_of_ble_eq_true rfl) (cm_readsP (by omega) _ hL3.1 hp3 (by rw [hd1]; exact ⟨by decide, by decide⟩)) (fun s126 h126 => ?_)
                      obtain ⟨w126, hx126, hp126⟩ := h126
                      have hL4 := LI_tok (LI_W hL3 w126 hx126) (Or.inl (by rw [hd1]; decide)) (nk2 hd1 (by decide))
                      have hp4 := hp126.2.2
                      refine g_iconst dX7_list_129 ⟨by decide, by decide⟩ ?_
                      refine g_istore dX7_list_130 (by decide) rfl ?_
                      refine g_aload_n dX7_list_132 rfl ?_
                      refine g_callvI dX7_list_133 tm_7_193 rfl ⟨rfl, rfl⟩ rfl (Nat.le_of_ble_eq_true rfl) (cm_isFine (by omega) _) (fun z133 s133 h133 => ?_)
                      obtain ⟨h133, e133⟩ := h133
                      obtain rfl := e133.symm
                      refine g_if_eq (tgt := 188) dX7_list_136 (by decide) (fun c136 => ?_) (fun c136 => ?_)
                      · exfalso; omega
                      · refine g_iload_n dX7_list_139 rfl ?_
                        refine g_bipush dX7_list_140 (by decide) ?_
                        refine g_icmp_ge (tgt := 188) dX7_list_142 (by decide) (fun c142 => ?_) (fun c142 => ?_)
                        · rw [← hR, ← hmap]
                          exact list_end hD hop hc6 v (by omega) cs (by omega) (fun _ => hlen) (q.2 + 2) s126 _ hL4 hp126
                        · exfalso; omega
                    · rw [if_neg (fun h => by omega)] at hR
                      refine g_aload_n dX7_list_110 rfl ?_
                      refine g_callvI dX7_list_111 tm_7_203 rfl ⟨rfl, rfl⟩ rfl (Nat.le_of_ble_eq_true rfl) (cm_faultsP (by omega) s90 hx90 hp2) (fun z111 s111 h111 => ?_)
                      refine g_ireturn dX7_list_114 (Or.inl rfl) ⟨_, rfl, ?_⟩
                      obtain rfl : Sum.inl (q.2 + 1) = R := hR
                      exact ⟨h111.2.1, hL2.2.1.tr (h111.2.2.1 c) (Nat.le_refl _), h111.1, h111.2.2.2⟩
                  · exfalso; omega
                · rw [if_neg hT] at hR
                  obtain rfl : Sum.inl q.2 = R := hR
                  have h290 : 0 ≤ hI s90 0 29 := by omega
                  refine g_aload_n dX7_list_93 rfl ?_
                  refine g_callvI dX7_list_94 tm_7_193 rfl ⟨rfl, rfl⟩ rfl (Nat.le_of_ble_eq_true rfl) (cm_isFine (by omega) _) (fun z94 s94 h94 => ?_)
                  obtain ⟨h94, e94⟩ := h94
                  obtain rfl := e94.symm
                  refine g_if_ne (tgt := 102) dX7_list_97 (by decide) (fun c97 => ?_) (fun c97 => ?_)
                  · exfalso; omega
                  · refine g_iconst dX7_list_100 ⟨by decide, by decide⟩ ?_
                    refine g_ireturn dX7_list_101 (Or.inl rfl) ⟨_, rfl, ?_⟩
                    exact ⟨hx90, hL1.2.1.tr (fr2 c) (Nat.le_refl _), rfl, h29⟩
              · refine g_iload_n dX7_list_81 rfl ?_
                refine g_bipush dX7_list_82 (by decide) ?_
                refine g_icmp_ne (tgt := 129) dX7_list_84 (by decide) (fun c84 => ?_) (fun c84 => ?_)
                · exfalso; omega
                · refine g_aload_n dX7_list_87 rfl ?_
                  refine g_bipush dX7_list_88 (by decide) ?_
                  refine g_callvV dX7_list_90 tm_7_229 rfl ⟨rfl, rfl⟩ rfl (Nat.le_of_ble_eq_true rfl) (cm_mustP (by omega) s3 hx3 hp1 44) (fun s90 h90 => ?_)
                  obtain ⟨hx90, h90⟩ := h90
                  rcases h90 with ⟨hT, w, hp2⟩ | ⟨hT, fr2, h29⟩
                  · rw [if_pos hT] at hR
                    have hL2 := LI_tok (LI_W hL1 w hx90) (nn3 hT) (by rw [hT]; exact ne3 (by decide))
                    have hp292 := hp2.2.2
                    have hw2 := hp2.w
                    have hnum2 := tkT_num (tx := tx) (n := n) (i := q.2 + 1)
                    have hf90 : s90.2.2 = mH := hx90.1
                    have hf := hf90
                    refine g_aload_n dX7_list_93 rfl ?_
                    refine g_callvI dX7_list_94 tm_7_193 rfl ⟨rfl, rfl⟩ rfl (Nat.le_of_ble_eq_true rfl) (cm_isFine (by omega) _) (fun z94 s94 h94 => ?_)
                    obtain ⟨h94, e94⟩ := h94
                    obtain rfl := e94.symm
                    refine g_if_ne (tgt := 102) dX7_list_97 (by decide) (fun c97 => ?_) (fun c97 => ?_)
                    · refine g_aload_n dX7_list_102 rfl ?_
                      refine g_getI dX7_list_103 tf_7_181 rfl rfl ?_
                      refine g_iconst dX7_list_106 ⟨by decide, by decide⟩ ?_
                      refine g_icmp_eq (tgt := 115) dX7_list_107 (by decide) (fun c107 => ?_) (fun c107 => ?_)
                      · have hd1 : (tkT tx n (q.2 + 1)).1 = 1 := by omega
                        have hv := hp2.v (by rw [hd1]; decide)
                        have hn2 := hnum2 hd1
                        rw [if_pos hd1] at hR
                        refine g_aload_n dX7_list_115 rfl ?_
                        refine g_getA dX7_list_116 tf_7_62 rfl rfl (mrf hf rfl) ?_
                        refine g_iload_n dX7_list_119 rfl ?_
                        refine g_aload_n dX7_list_120 rfl ?_
                        refine g_getI dX7_list_121 tf_7_178 rfl rfl ?_
                        rw [hv]
                        generalize hnu : (tkT tx n (q.2 + 1)).2 = v at *
                        refine g_iastN (1600 * oth + c) dX7_list_124 rfl (by omega) (by omega) ?_
                        have hL3 := LI_num hL2 (by omega) (v := v) ⟨by omega, by omega⟩ (by omega)
                        have hp3 : PFi tx n (q.2 + 1) (uI s90 18 (1600 * oth + c) v) := hp2.of (fun k hk => hI_uI_n (by omega))
                        refine g_aload_n dX7_list_125 rfl ?_
                        refine g_callvV dX7_list_126 tm_7_200 rfl ⟨rfl, rfl⟩ rfl (Nat.le_of_ble_eq_true rfl) (cm_readsP (by omega) _ hL3.1 hp3 (by rw [hd1]; exact ⟨by decide, by decide⟩)) (fun s126 h126 => ?_)
                        obtain ⟨w126, hx126, hp126⟩ := h126
                        have hL4 := LI_tok (LI_W hL3 w126 hx126) (Or.inl (by rw [hd1]; decide)) (nk2 hd1 (by decide))
                        have hp4 := hp126.2.2
                        refine g_iconst dX7_list_129 ⟨by decide, by decide⟩ ?_
                        refine g_istore dX7_list_130 (by decide) rfl ?_
                        refine g_aload_n dX7_list_132 rfl ?_
                        refine g_callvI dX7_list_133 tm_7_193 rfl ⟨rfl, rfl⟩ rfl (Nat.le_of_ble_eq_true rfl) (cm_isFine (by omega) _) (fun z133 s133 h133 => ?_)
                        obtain ⟨h133, e133⟩ := h133
                        obtain rfl := e133.symm
                        refine g_if_eq (tgt := 188) dX7_list_136 (by decide) (fun c136 => ?_) (fun c136 => ?_)
                        · exfalso; omega
                        · refine g_iload_n dX7_list_139 rfl ?_
                          refine g_bipush dX7_list_140 (by decide) ?_
                          refine g_icmp_ge (tgt := 188) dX7_list_142 (by decide) (fun c142 => ?_) (fun c142 => ?_)
                          · rw [← hR, ← hmap]
                            exact list_end hD hop hc6 v (by omega) cs (by omega) (fun _ => hlen) (q.2 + 2) s126 _ hL4 hp126
                          · exfalso; omega
                      · rw [if_neg (fun h => by omega)] at hR
                        refine g_aload_n dX7_list_110 rfl ?_
                        refine g_callvI dX7_list_111 tm_7_203 rfl ⟨rfl, rfl⟩ rfl (Nat.le_of_ble_eq_true rfl) (cm_faultsP (by omega) s90 hx90 hp2) (fun z111 s111 h111 => ?_)
                        refine g_ireturn dX7_list_114 (Or.inl rfl) ⟨_, rfl, ?_⟩
                        obtain rfl : Sum.inl (q.2 + 1) = R := hR
                        exact ⟨h111.2.1, hL2.2.1.tr (h111.2.2.1 c) (Nat.le_refl _), h111.1, h111.2.2.2⟩
                    · exfalso; omega
                  · rw [if_neg hT] at hR
                    obtain rfl : Sum.inl q.2 = R := hR
                    have h290 : 0 ≤ hI s90 0 29 := by omega
                    refine g_aload_n dX7_list_93 rfl ?_
                    refine g_callvI dX7_list_94 tm_7_193 rfl ⟨rfl, rfl⟩ rfl (Nat.le_of_ble_eq_true rfl) (cm_isFine (by omega) _) (fun z94 s94 h94 => ?_)
                    obtain ⟨h94, e94⟩ := h94
                    obtain rfl := e94.symm
                    refine g_if_ne (tgt := 102) dX7_list_97 (by decide) (fun c97 => ?_) (fun c97 => ?_)
                    · exfalso; omega
                    · refine g_iconst dX7_list_100 ⟨by decide, by decide⟩ ?_
                      refine g_ireturn dX7_list_101 (Or.inl rfl) ⟨_, rfl, ?_⟩
                      exact ⟨hx90, hL1.2.1.tr (fr2 c) (Nat.le_refl _), rfl, h29⟩
            · rw [if_neg h9, ← hmap] at hR
              rw [← hR]
              refine g_iload_n dX7_list_75 rfl ?_
              refine g_bipush dX7_list_76 (by decide) ?_
              refine g_icmp_eq (tgt := 87) dX7_list_78 (by decide) (fun c78 => ?_) (fun c78 => ?_)
              · exfalso; omega
              · refine g_iload_n dX7_list_81 rfl ?_
                refine g_bipush dX7_list_82 (by decide) ?_
                refine g_icmp_ne (tgt := 129) dX7_list_84 (by decide) (fun c84 => ?_) (fun c84 => ?_)
                · refine g_iconst dX7_list_129 ⟨by decide, by decide⟩ ?_
                  refine g_istore dX7_list_130 (by decide) rfl ?_
                  have hfin := list_loop hD hdp hop hc6 (by omega) num hnum sum hsum 650 q.2 cs s3 (by omega) hL1 hp1 (by omega)
                  rw [hlen] at hfin
                  exact hfin
                · exfalso; omega
        · exfalso; omega
  · rw [if_neg h40] at hR
    obtain rfl : Sum.inl i1 = R := hR
    refine g_aload_n dX7_list_39 rfl ?_
    refine g_bipush dX7_list_40 (by decide) ?_
    refine g_callvI dX7_list_42 tm_7_197 rfl ⟨rfl, rfl⟩ rfl (Nat.le_of_ble_eq_true rfl) (cm_isSignP (by omega) _ hp 40) (fun z42 s42 h42 => ?_)
    obtain ⟨h42, e42⟩ := h42
    obtain rfl := e42.symm
    have y42 : z42 = 0 := by rcases h42 with ⟨a, b⟩ | ⟨a, b⟩; exact absurd b (h40); exact a
    clear h42
    refine g_if_eq (tgt := 54) dX7_list_45 (by decide) (fun c45 => ?_) (fun c45 => ?_)
    · refine g_aload_n dX7_list_54 rfl ?_
      refine g_callvI dX7_list_55 tm_7_203 rfl ⟨rfl, rfl⟩ rfl (Nat.le_of_ble_eq_true rfl) (cm_faultsP (by omega) s hx hp) (fun z55 s55 h55 => ?_)
      refine g_ireturn dX7_list_58 (Or.inl rfl) ⟨_, rfl, ?_⟩
      exact ⟨h55.2.1, hB.2.1.tr (h55.2.2.1 c) (Nat.le_refl _), h55.1, h55.2.2.2⟩
    · exfalso; omega
theorem list_ok {oth n f D1 : Nat} {tx : Nat → Int} {deep : Int} (hD : 3 ≤ D1) (hdp : 0 ≤ deep ∧ deep ≤ 8) {i c : Nat} {op : Int} {σ : am_HS} (hop : 4 ≤ op ∧ op ≤ 10) (hc6 : c + 1 < 1600) (sm : Option (Nat → PR)) (hsm : SmK oth n tx f D1 deep sm) (hcb : c ≤ 2 * i + 2) (s : am_HS) (hB : FnB oth n tx c i (i + 1) op 0 σ s) (hp : PFi tx n (i + 1) s) : am_Do lm (D1 + 1) mX7_list s [vR (some 0), vI ((1600 * oth + c : Nat) : Int), vI op, vI deep] (qI fun z u => PQ oth n tx (f + 1) c i σ (pLi sm (tkT tx n) op (i + 1)) z u) := by
  refine am_enter rfl rfl (Nat.le_of_ble_eq_true rfl) ?_
  have hpl := hp.le
  have hx := hB.1
  have hnn : n ≤ 600 := hx.2.2.2.2.2.2
  have hoth : oth < 2 := hx.2.2.2.2.2.1
  have hf : s.2.2 = mH := hx.1
  have hw2 := hp.w
  have hnum2 := tkT_num (tx := tx) (n := n) (i := i + 1)
  generalize hR : pLi sm (tkT tx n) op (i + 1) = R
  unfold pLi at hR
  by_cases h78 : op = 7 ∨ op = 8
  · rw [if_pos h78] at hR
    refine g_iload_n dX7_list_0 rfl ?_
    refine g_bipush dX7_list_1 (by decide) ?_
    refine g_icmp_eq (tgt := 12) dX7_list_3 (by decide) (fun c3 => ?_) (fun c3 => ?_)
    · refine g_aload_n dX7_list_12 rfl ?_
      refine g_getI dX7_list_13 tf_7_181 rfl rfl ?_
      refine g_iconst dX7_list_16 ⟨by decide, by decide⟩ ?_
      refine g_icmp_eq (tgt := 25) dX7_list_17 (by decide) (fun c17 => ?_) (fun c17 => ?_)
      · have hd1 : (tkT tx n (i + 1)).1 = 1 := by omega
        have hv := hp.v (by rw [hd1]; decide)
        have hn2 := hnum2 hd1
        rw [if_pos hd1] at hR
        refine g_aload_n dX7_list_25 rfl ?_
        refine g_getA dX7_list_26 tf_7_62 rfl rfl (mrf hf rfl) ?_
        refine g_iload_n dX7_list_29 rfl ?_
        refine g_aload_n dX7_list_30 rfl ?_
        refine g_getI dX7_list_31 tf_7_178 rfl rfl ?_
        rw [hv]
        generalize hnu : (tkT tx n (i + 1)).2 = v at *
        refine g_iastN (1600 * oth + c) dX7_list_34 rfl (by omega) (by omega) ?_
        have hB3 := hB.n (by omega) (v := v) ⟨by omega, by omega⟩ (by omega)
        have hp3 : PFi tx n (i + 1) (uI s 18 (1600 * oth + c) v) := hp.of (fun k hk => hI_uI_n (by omega))
        refine g_aload_n dX7_list_35 rfl ?_
        refine g_callvV dX7_list_36 tm_7_200 rfl ⟨rfl, rfl⟩ rfl (Nat.le_of_ble_eq_true rfl) (cm_readsP (by omega) _ hB3.1 hp3 (by rw [hd1]; exact ⟨by decide, by decide⟩)) (fun s36 h36 => ?_)
        obtain ⟨w36, hx36, hp36⟩ := h36
        rw [← hR]
        exact list_par hD hdp hop hc6 v (by omega) sm hsm (i + 1 + 1) (by omega) (by omega) s36 (hB3.w w36 hx36 (by omega) (Or.inl (by rw [hd1]; decide)) (nk2 hd1 (by decide))) hp36
      · rw [if_neg (fun h => by omega)] at hR
        refine g_aload_n dX7_list_20 rfl ?_
        refine g_callvI dX7_list_21 tm_7_203 rfl ⟨rfl, rfl⟩ rfl (Nat.le_of_ble_eq_true rfl) (cm_faultsP (by omega) s hx hp) (fun z21 s21 h21 => ?_)
        refine g_ireturn dX7_list_24 (Or.inl rfl) ⟨_, rfl, ?_⟩
        obtain rfl : Sum.inl (i + 1) = R := hR
        exact ⟨h21.2.1, hB.2.1.tr (h21.2.2.1 c) (Nat.le_refl _), h21.1, h21.2.2.2⟩
    · refine g_iload_n dX7_list_6 rfl ?_
      refine g_bipush dX7_list_7 (by decide) ?_
      refine g_icmp_ne (tgt := 39) dX7_list_9 (by decide) (fun c9 => ?_) (fun c9 => ?_)
      · exfalso; omega
      · refine g_aload_n dX7_list_12 rfl ?_
        refine g_getI dX7_list_13 tf_7_181 rfl rfl ?_
        refine g_iconst dX7_list_16 ⟨by decide, by decide⟩ ?_
        refine g_icmp_eq (tgt := 25) dX7_list_17 (by decide) (fun c17 => ?_) (fun c17 => ?_)
        · have hd1 : (tkT tx n (i + 1)).1 = 1 := by omega
          have hv := hp.v (by rw [hd1]; decide)
          have hn2 := hnum2 hd1
          rw [if_pos hd1] at hR
          refine g_aload_n dX7_list_25 rfl ?_
          refine g_getA dX7_list_26 tf_7_62 rfl rfl (mrf hf rfl) ?_
          refine g_iload_n dX7_list_29 rfl ?_
          refine g_aload_n dX7_list_30 rfl ?_
          refine g_getI dX7_list_31 tf_7_178 rfl rfl ?_
          rw [hv]
          generalize hnu : (tkT tx n (i + 1)).2 = v at *
          refine g_iastN (1600 * oth + c) dX7_list_34 rfl (by omega) (by omega) ?_
          have hB3 := hB.n (by omega) (v := v) ⟨by omega, by omega⟩ (by omega)
          have hp3 : PFi tx n (i + 1) (uI s 18 (1600 * oth + c) v) := hp.of (fun k hk => hI_uI_n (by omega))
          refine g_aload_n dX7_list_35 rfl ?_
          refine g_callvV dX7_list_36 tm_7_200 rfl ⟨rfl, rfl⟩ rfl (Nat.le_of_ble_eq_true rfl) (cm_readsP (by omega) _ hB3.1 hp3 (by rw [hd1]; exact ⟨by decide, by decide⟩)) (fun s36 h36 => ?_)
          obtain ⟨w36, hx36, hp36⟩ := h36
          rw [← hR]
          exact list_par hD hdp hop hc6 v (by omega) sm hsm (i + 1 + 1) (by omega) (by omega) s36 (hB3.w w36 hx36 (by omega) (Or.inl (by rw [hd1]; decide)) (nk2 hd1 (by decide))) hp36
        · rw [if_neg (fun h => by omega)] at hR
          refine g_aload_n dX7_list_20 rfl ?_
          refine g_callvI dX7_list_21 tm_7_203 rfl ⟨rfl, rfl⟩ rfl (Nat.le_of_ble_eq_true rfl) (cm_faultsP (by omega) s hx hp) (fun z21 s21 h21 => ?_)
          refine g_ireturn dX7_list_24 (Or.inl rfl) ⟨_, rfl, ?_⟩
          obtain rfl : Sum.inl (i + 1) = R := hR
          exact ⟨h21.2.1, hB.2.1.tr (h21.2.2.1 c) (Nat.le_refl _), h21.1, h21.2.2.2⟩
  · rw [if_neg h78] at hR
    refine g_iload_n dX7_list_0 rfl ?_
    refine g_bipush dX7_list_1 (by decide) ?_
    refine g_icmp_eq (tgt := 12) dX7_list_3 (by decide) (fun c3 => ?_) (fun c3 => ?_)
    · exfalso; omega
    · refine g_iload_n dX7_list_6 rfl ?_
      refine g_bipush dX7_list_7 (by decide) ?_
      refine g_icmp_ne (tgt := 39) dX7_list_9 (by decide) (fun c9 => ?_) (fun c9 => ?_)
      · rw [← hR]
        exact list_par hD hdp hop hc6 0 (by omega) sm hsm (i + 1) (by omega) (by omega) s hB hp
      · exfalso; omega
