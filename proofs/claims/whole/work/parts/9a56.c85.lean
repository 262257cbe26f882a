section
/-! THE REFERENCE'S CONSTRUCTOR, behind Object's -/
variable {p : Program} {l : Launch} {e : Env} {s : State} {m : MethodId} {args : Array Value} {below : List Frame} {meth : Method} {c0 : Code} {D : va_G} {cA : Nat → ClassId} {ad : Nat → Nat} {lay : Nat → Nat ⊕ (Nat × Nat)} {n : Nat} {A : Nat → Prop} {R : Room}
theorem am_wl_ix {σ : am_HS} {k : Nat} {q : Nat × va_E} (h : (am_wl cA ad lay n σ)[k]? = some q) : k < n ∧ q.1 = ad k := by
  unfold am_wl at h
  rw [List.getElem?_map] at h
  rcases Nat.lt_or_ge k n with y | y
  · rw [List.getElem?_range y] at h
    have h2 : some (ad k, am_ce cA ad lay σ k) = some q := h
    exact ⟨y, (congrArg Prod.fst (Option.some.inj h2)).symm⟩
  · rw [List.getElem?_eq_none (by simpa using y)] at h
    cases h
theorem va_D_any {σ : am_HS} (h : va_D A (am_wl cA ad lay n σ)) (σ' : am_HS) : va_D A (am_wl cA ad lay n σ') := by
  obtain ⟨h1, h2⟩ := h
  refine ⟨fun i j q r hi hj e => ?_, fun k q hk => ?_⟩
  · obtain ⟨i1, i2⟩ := am_wl_ix hi
    obtain ⟨j1, j2⟩ := am_wl_ix hj
    exact h1 i j _ _ (am_wl_at (σ := σ) i1) (am_wl_at (σ := σ) j1) (by show ad i = ad j; rw [← i2, ← j2, e])
  · obtain ⟨k1, k2⟩ := am_wl_ix hk
    rw [k2]
    exact h2 k _ (am_wl_at (σ := σ) k1)
/-- from pc 4 on -/
theorem iniM_4 {ad0 : Nat → Nat} {H : Heap} {locs : List Loc} {ls : Array Slot} {Q : State → Prop} (hx : p.tables.exec = Jvm.exec) (hb : c0.code = cX7_init) (hml : c0.maxLocals = 2) (hlocks : meth.locks = false) (hown : s.vm.findClass (am_own 7) = some m.cls) (hts : ∀ w ∈ am_tb, w.before args s = true) (hin : meth.name = "<init>") (hret : am_rtok 0 meth.sig.returnType = true) (hl : lv_has ls 2 [(0, .ref (ad0 0))]) (hK : va_K D vwCl (am_tys cA) s) (hN : am_N s) (hP : va_P D vwCl (am_wl cA ad0 lm 1 (mS 0)) H) (hD : va_D A (am_wl cA ad0 lm 1 (mS 0))) (hS : va_S A s.heap H locs) (hA : ∀ q, s.heap.size ≤ q → A q) (hR : 1 ≤ R.frames ∧ 40 ≤ R.locals) (hc : 40 ≤ R.cells) (hs : 30936 ≤ R.slots)
    (K : ∀ (ad : Nat → Nat), ad 0 = ad0 0 → ∀ t, MQ below (am_Q D cA ad lm 41 A none tau0) args s 40 30936 A t → Q t) : W p l e R s m args below meth c0 H locs 0 0 Q (F0 m 4 ls []) := by
  refine mk_allM hx hb hown hts hin hl hK hP hD hS hA hc hs (fun ad H1 locs1 a0 hl1 hP1 hD1 hS1 => ?_)
  obtain ⟨r, σ1, ⟨er, es⟩, f, hg⟩ := ini_M 0
  rw [er, es] at hg
  have hDa : ∀ σ, va_D A (am_wl cA ad lm 41 σ) := fun σ => va_D_any hD1 σ
  have hok : am_okl [some (vR (some 0)), none] := fun i v hv => by
    match i, hv with
    | 0, hv => cases hv; exact trivial
    | 1, hv => cases hv
    | i + 2, hv => cases hv
  have W1 := am_tieG (own := "") (e := e) (below := below) (d := 0) ⟨hc, hs⟩ hx hb hml hlocks hown hts hret hK hDa lm_ok hR (am_sound l D cA ad lm 41 A hDa lm_ok 0) hN f 336 [some (vR (some 0)), none] [] (mS 40) none tau0 H1 locs1 ls hg hP1 hS1 hl1 trivial hok
  intro T hT X
  obtain ⟨t, g, q⟩ := W1 T hT X
  exact ⟨t, g, K ad a0 t q⟩
end
