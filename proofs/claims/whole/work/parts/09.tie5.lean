/-! THE TIE: a method's run, to any depth -/
theorem am_ent_has (ad : Nat → Nat) (vs : List am_V) (n : Nat) (h : am_cats vs ≤ n) : ∃ ls : Array Slot, (∀ m, entryFrame m (vs.map (am_cz ad)).toArray n = F0 m 0 ls []) ∧ lv_has ls n (am_kn ad (am_ent vs n)) := by
  have hlen : ∀ vs : List am_V, (lg_sl (vs.map (am_cz ad))).length = am_cats vs := by
    intro vs
    induction vs with
    | nil => rfl
    | cons v t ih =>
      have : lg_sl ((v :: t).map (am_cz ad)) = (if (am_cz ad v).category = 2 then [.val (am_cz ad v), .second] else [.val (am_cz ad v)]) ++ lg_sl (t.map (am_cz ad)) := by simp [lg_sl]
      rw [this, List.length_append, ih, am_cz_cat]
      rcases v with x | x | x <;> simp [am_cat, am_cats]
  refine ⟨_, fun m => lg_entry_eq m _ n, ?_⟩
  refine am_has_mono (lv_entry (vs.map (am_cz ad)) (n := n) (by rw [hlen]; exact h)) ?_
  have key : ∀ (vs : List am_V) (k n j : Nat) (u : am_V), lvg (am_ent vs n) j = some u → (k + j, am_cz ad u) ∈ lv_args k (vs.map (am_cz ad)) := by
    intro vs
    induction vs with
    | nil =>
      intro k n j u h
      exfalso
      revert j
      show ∀ j, lvg (List.replicate n none) j = some u → False
      induction n with
      | zero => intro j h; simp [lvg] at h
      | succ n ih => intro j h; cases j with
        | zero => simp [List.replicate, lvg] at h
        | succ j => exact ih j (by simpa [List.replicate, lvg] using h)
    | cons v t ih =>
      intro k n j u h
      rcases v with x | x | x
      · cases j with
        | zero => simp [am_ent, lvg] at h; subst h; exact List.mem_cons_self
        | succ j =>
          have := ih (k + 1) (n - 1) j u (by simpa [am_ent, lvg] using h)
          refine List.mem_cons_of_mem _ ?_
          rw [show k + (j + 1) = k + 1 + j by omega]
          exact this
      · match j, h with
        | 0, h => simp [am_ent, lvg] at h; subst h; exact List.mem_cons_self
        | 1, h => simp [am_ent, lvg] at h
        | j + 2, h =>
          have := ih (k + 2) (n - 2) j u (by simpa [am_ent, lvg] using h)
          refine List.mem_cons_of_mem _ ?_
          rw [show k + (j + 2) = k + 2 + j by omega]
          exact this
      · cases j with
        | zero => simp [am_ent, lvg] at h; subst h; exact List.mem_cons_self
        | succ j =>
          have := ih (k + 1) (n - 1) j u (by simpa [am_ent, lvg] using h)
          refine List.mem_cons_of_mem _ ?_
          rw [show k + (j + 1) = k + 1 + j by omega]
          have e : (am_cz ad (.inr (.inr x))).category = 1 := am_cz_cat ad (vR x)
          show (k + 1 + j, am_cz ad u) ∈ lv_args (if (am_cz ad (.inr (.inr x))).category = 2 then k + 2 else k + 1) _
          rw [e]
          exact this
  intro q hq
  obtain ⟨u, h1, h2⟩ := am_kn_mem.mp hq
  have := key vs 0 n q.1 u h1
  rw [Nat.zero_add, ← h2] at this
  exact this
theorem am_ent_ok {vs : List am_V} (h : am_oks vs) (n : Nat) : am_okl (am_ent vs n) := by
  intro i v hv
  induction vs generalizing n i with
  | nil =>
    exfalso
    revert i
    show ∀ j, lvg (List.replicate n none) j = some v → False
    induction n with
    | zero => intro j h; simp [lvg] at h
    | succ n ih => intro j h; cases j with
      | zero => simp [List.replicate, lvg] at h
      | succ j => exact ih j (by simpa [List.replicate, lvg] using h)
  | cons a t ih =>
    rcases a with x | x | x
    · cases i with
      | zero => simp [am_ent, lvg] at hv; subst hv; exact h.1
      | succ i => exact ih h.2 (n - 1) i (by simpa [am_ent, lvg] using hv)
    · match i, hv with
      | 0, hv => simp [am_ent, lvg] at hv; subst hv; exact h.1
      | 1, hv => simp [am_ent, lvg] at hv
      | i + 2, hv => exact ih h.2 (n - 2) i (by simpa [am_ent, lvg] using hv)
    · cases i with
      | zero => simp [am_ent, lvg] at hv; subst hv; exact h.1
      | succ i => exact ih h.2 (n - 1) i (by simpa [am_ent, lvg] using hv)
/-- a run of a method, with arguments that fit its locals -/
def am_EvF (lay : Nat → Nat ⊕ (Nat × Nat)) (d mi : Nat) (σ : am_HS) (args : List am_V) (r : Option am_V) (σ1 : am_HS) : Prop := am_Ev am_T0 am_M0 lay d mi σ args r σ1
theorem am_sound (l : Launch) (D : va_G) (cA : Nat → ClassId) (ad : Nat → Nat) (lay : Nat → Nat ⊕ (Nat × Nat)) (n : Nat) (A : Nat → Prop) (hD : ∀ σ, va_D A (am_wl cA ad lay n σ)) (hly : am_lyok lay n) : ∀ d, am_SE l D cA ad lay n A d (am_Ev am_T0 am_M0 lay d) := by
  intro d
  induction d with
  | zero => intro mi σ args r σ1 _ h _; exact h.elim
  | succ d ih =>
    intro mi σ args r σ1 hmi h hok
    obtain ⟨hc, f, h⟩ := h
    have hM := List.all_eq_true.mp am_MLok mi (List.mem_range.mpr hmi)
    simp only [am_Mok, Bool.and_eq_true, decide_eq_true_eq, Bool.or_eq_true] at hM
    obtain ⟨⟨⟨⟨⟨⟨⟨⟨⟨h1, h2⟩, h3⟩, h4⟩, h5⟩, h6⟩, h7⟩, h8⟩, h9⟩, h10⟩ := hM
    refine Met.ofW (cc := (am_M0 mi).2.1) (maxL := (am_M0 mi).2.2.1) (ret := am_ret mi) h8 rfl ?_
    intro p e s m args' below meth c s₁ B hml hv
    obtain ⟨rfl, hP, hK, hN⟩ := hv
    have hts0 : ∀ w ∈ am_W mi, w.before (args.map (am_cz ad)).toArray s = true := atoms_spec (ws := am_W mi) B.pre
    obtain ⟨ls, e1, hl⟩ := am_ent_has ad args (am_M0 mi).2.2.1 hc
    have hown : s.vm.findClass (am_own (am_M0 mi).1) = some m.cls := by
      have := findClass_of_methodNamed B.named
      rw [h10] at this
      exact this
    show W p l e (am_rm (d + 1)) s m _ below meth c s.heap [] 0 0 _ _
    rw [e1 m]
    exact am_tie (R := am_rm (d + 1)) (own := "") B.exec B.bytes hml B.notSynchronized hown (fun w hw => hts0 w (List.mem_cons_of_mem _ hw)) (by rw [B.returns]; exact h7) hK hD hly ⟨Nat.le_refl _, Nat.le_refl _⟩ ih hN f 0 _ [] σ r σ1 s.heap [] ls h hP va_S.rf hl trivial (am_ent_ok hok _)
