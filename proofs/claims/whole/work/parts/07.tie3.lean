/-! THE TIE, instruction by instruction -/
def am_N (U : State) : Prop := ∀ q ∈ am_KL, q.2.2.2.2 ≠ 0 → va_Nw (Cond.methodLinkNest (am_own q.1) q.2.1 (am_Y q.2.2.1) "CourseHouse") U
theorem am_N.warm {s U : State} (hW : s.WarmedH U.vm) (h : am_N s) : am_N U := fun q hq hz => va_Nw.warmM hW (h q hq hz)
theorem am_N.same {u U : State} (hvm : u.vm = U.vm) (h : am_N u) : am_N U := fun q hq hz => va_Nw.same rfl hvm (h q hq hz)
def am_Bd (D : va_G) (cA : Nat → ClassId) (ad : Nat → Nat) (lay : Nat → Nat ⊕ (Nat × Nat)) (n : Nat) (σ : am_HS) (U : State) : Prop := va_P D vwCl (am_wl cA ad lay n σ) U.heap ∧ va_K D vwCl (am_tys cA) U ∧ am_N U
def am_Q (D : va_G) (cA : Nat → ClassId) (ad : Nat → Nat) (lay : Nat → Nat ⊕ (Nat × Nat)) (n : Nat) (A : Nat → Prop) (r : Option am_V) (σ1 : am_HS) : Array Value → State → Outcome → State → Prop := fun _ st oc t => (oc = .returned (r.map (am_cz ad)) ∧ (∀ v, r = some v → am_ok v) ∧ am_Bd D cA ad lay n σ1 t) ∧ va_F A st t
def am_rm (d : Nat) : Room := { frames := d, cells := 0, slots := 0, locals := 40 * d }
def am_lyok (lay : Nat → Nat ⊕ (Nat × Nat)) (n : Nat) : Prop := ∀ o, n ≤ o → lay o = .inr (99, 0)
def am_SE (l : Launch) (D : va_G) (cA : Nat → ClassId) (ad : Nat → Nat) (lay : Nat → Nat ⊕ (Nat × Nat)) (n : Nat) (A : Nat → Prop) (d : Nat) (E : Nat → am_HS → List am_V → Option am_V → am_HS → Prop) : Prop :=
  ∀ mi σ args r σ1, mi < am_ML.length → E mi σ args r σ1 → am_oks args → Met l (am_Y mi) (am_W mi) (am_rm d) (va_Pc (args.map (am_cz ad)) (am_Bd D cA ad lay n σ)) (am_Q D cA ad lay n A r σ1) 0 0 A
section TIE
variable {p : Program} {l : Launch} {e : Env} {s : State} {m : MethodId} {args : Array Value} {below : List Frame} {meth : Method} {c0 : Code} {D : va_G} {cA : Nat → ClassId} {ad : Nat → Nat} {lay : Nat → Nat ⊕ (Nat × Nat)} {n : Nat} {A : Nat → Prop} {R : Room}
theorem am_lt (hly : am_lyok lay n) {o : Nat} {x : Nat ⊕ (Nat × Nat)} (h : lay o = x) (hx : x ≠ .inr (99, 0)) : o < n := by
  rcases Nat.lt_or_ge o n with q | q
  · exact q
  · exact absurd (h.symm.trans (hly o q)) hx
/-- behind a call -/
theorem am_call {E' : Option am_V} {σ1 : am_HS} {H H0 : Heap} {locs : List Loc} {pc : Nat} {ls : Array Slot} {st0 rest : List Value} {a : Array Value} {Q : State → Prop}
    (hr : va_Run p l e R s m args below meth c0 H locs 0 0 0 0 (F0 m pc ls st0) rest (am_Q D cA ad lay n A E' σ1 a) A) (hS : va_S A H0 H locs)
    (kk : ∀ (t : State) (H1 : Heap) (locs1 : List Loc), t.heap = H1 → s.vm.Alike t.vm → (∀ v, E' = some v → am_ok v) → am_Bd D cA ad lay n σ1 t → va_S A H0 H1 locs1 → W p l e R s m args below meth c0 H1 locs1 0 0 Q (F0 m (pc + 3) ls ((E'.map (am_cz ad)).toList ++ rest))) : W p l e R s m args below meth c0 H locs 0 0 Q (F0 m pc ls st0) := by
  intro T hT X
  obtain ⟨v, st₀, t, T', L, h0, X', hL, e1, e2, ⟨⟨hv, hok, hb⟩, hz, hk⟩, st⟩ := hr T hT X
  cases hv
  rw [h0] at hz hk
  obtain ⟨t2, a1, b1⟩ := kk t T'.heap (locs ++ L) e1.symm (by rw [← e2]; exact X'.warmed.alike) hok hb
    ⟨Nat.le_trans hS.1 (by rw [e1]; exact hz), fun q h1 h2 => by rw [e1, hk q (Nat.lt_of_lt_of_le h1 hS.1) h2]; exact hS.2.1 q h1 h2, fun q hq => by
      rcases List.mem_append.mp hq with h | h
      · exact hS.2.2 q h
      · exact hL q h⟩ T' rfl X'
  exact ⟨t2, st t2 a1, b1⟩
theorem am_tys_at (cA : Nat → ClassId) {k : Nat} (h : k < 6) : (am_tys cA)[k]? = some (cA k, am_aty k) := by simp [am_tys, h]
theorem am_blind {av : List Value} {σ : am_HS} : FrameBlind (va_Pc av (am_Bd D cA ad lay n σ)) := fun a U g mk q => by
  obtain ⟨q0, qP, qK, qN⟩ := q
  exact ⟨q0, qP, va_K.moved (u := U) (U := U.calling g mk a) (Vm.Alike.refl U.vm) qK, qN.same rfl⟩
/-- what a call's words give -/
theorem am_cb {own : String} {i mi d : Nat} (hts : ∀ w ∈ am_tb, w.before args s = true) (hmi : mi < am_ML.length) (hR : d + 1 ≤ R.frames ∧ 40 * (d + 1) ≤ R.locals) :
    ((am_rm d).cells = 0 ∧ (am_rm d).slots = 0 ∧ (am_rm d).frames + 1 ≤ R.frames ∧ 8 + ((am_M0 mi).2.2.1 + 11) + (am_rm d).locals ≤ R.locals ∧ (∀ w ∈ am_W mi, ∀ (a' : Array Value) (U : State), s.WarmedH U.vm → w.before a' U = true) ∧ Cond.code (am_Y mi) (am_M0 mi).2.1 (am_M0 mi).2.2.1 (am_ret mi) ∈ am_W mi) ∧ (Cond.code (am_Y mi) (am_M0 mi).2.1 (am_M0 mi).2.2.1 (am_ret mi)).before args s = true ∧ (Cond.initialized (am_Y mi).cls).before args s = true ∧ ((am_Y mi).cls ≠ "java/lang/invoke/MethodHandle" ∧ (am_Y mi).cls ≠ "java/lang/invoke/VarHandle") ∧ (∀ sig, parseMethodDescriptor (am_Y mi).desc = some sig → (am_M0 mi).2.2.2.1 = sig.parameters.length) ∧ (if (am_M0 mi).2.2.2.2.2.1 then Cond.static (am_Y mi) else Cond.instanceMethod (am_Y mi)).before args s = true ∧ ((am_M0 mi).2.2.2.2.2.1 = false → (Cond.selects (am_Y mi).cls (am_Y mi) (am_Y mi)).before args s = true ∧ (vwCl[(am_M0 mi).2.2.2.2.2.2]?).map (fun q => q.1) = some (am_Y mi).cls) ∧ am_rtok (am_M0 mi).2.2.2.2.1 (am_ret mi) = true ∧ plainName (am_Y mi).cls = true ∧ (am_Y mi).cls = am_own (am_M0 mi).1 := by
  have h := List.all_eq_true.mp am_MLok mi (List.mem_range.mpr hmi)
  simp only [am_Mok, Bool.and_eq_true, decide_eq_true_eq, Bool.or_eq_true] at h
  obtain ⟨⟨⟨⟨⟨⟨⟨⟨⟨h1, h2⟩, h3⟩, h4⟩, h5⟩, h6⟩, h7⟩, h8⟩, h9⟩, h10⟩ := h
  have hcode : Cond.code (am_Y mi) (am_M0 mi).2.1 (am_M0 mi).2.2.1 (am_ret mi) ∈ lw_tbl := by
    have hm : am_cdW mi ∈ (List.range am_ML.length).map am_cdW := List.mem_map.mpr ⟨mi, List.mem_range.mpr hmi, rfl⟩
    rw [am_MCok] at hm
    obtain ⟨q, -, hq⟩ := List.mem_filterMap.mp hm
    exact List.mem_of_getElem? hq
  have hW : ∀ w ∈ am_W mi, w ∈ am_tb := fun w hw => by
    rcases List.mem_cons.mp hw with rfl | hw
    · exact am_tb_in hcode rfl
    · exact hw
  have htb : ∀ w ∈ am_tb, w.before args s = true := hts
  have gd : goodWord (if (am_M0 mi).2.2.2.2.2.1 then Cond.static (am_Y mi) else Cond.instanceMethod (am_Y mi)) = true := by split <;> rfl
  refine ⟨⟨rfl, rfl, hR.1, ?_, pay_in htb (am_goodIn hW), List.mem_cons_self⟩, hts _ (am_tb_in hcode rfl), hts _ (am_tb_in (List.mem_of_getElem? h3) rfl), ⟨h4, h5⟩, fun sig hs => ?_, hts _ (am_tb_in (List.mem_of_getElem? h1) gd), fun hst => ?_, h7, h8, h10⟩
  · show 8 + ((am_M0 mi).2.2.1 + 11) + 40 * d ≤ R.locals
    omega
  · rw [hs] at h6
    exact (Option.some.inj h6).symm
  · rcases h2 with h2 | h2
    · rw [hst] at h2; cases h2
    · exact ⟨hts _ (am_tb_in (List.mem_of_getElem? h2.1) rfl), h2.2⟩
theorem am_K {c i mi : Nat} (h : am_T0.2.1 c i = some mi) : mi < am_ML.length ∧ (Cond.methodLink (am_own c) i (am_Y mi) ∈ lw_tbl ∨ ∀ U, am_N U → va_Nw (Cond.methodLinkNest (am_own c) i (am_Y mi) "CourseHouse") U) := by
  have h1 : (am_lk am_KL c i).map (fun q => q.1) = some mi := h
  cases hq : am_lk am_KL c i with
  | none => rw [hq] at h1; cases h1
  | some q =>
    rw [hq] at h1
    obtain ⟨q1, q2, q3⟩ := q
    cases h1
    have h2 := List.all_eq_true.mp am_KLok _ (am_lk_mem hq)
    simp only [am_Kok, Bool.and_eq_true, decide_eq_true_eq] at h2
    refine ⟨h2.1, ?_⟩
    have h3 := List.mem_of_getElem? h2.2
    by_cases e : q3 = 0
    · rw [if_pos e] at h3; exact Or.inl h3
    · exact Or.inr fun U hU => hU _ (am_lk_mem hq) e
theorem am_I {c i : Nat} {v : Int} (h : am_T0.2.2.1 c i = some v) : Cond.constant (am_own c) i (Int32.ofInt v) ∈ lw_tbl := by
  have h1 : (am_lk am_IL c i).map (fun q => q.1) = some v := h
  cases hq : am_lk am_IL c i with
  | none => rw [hq] at h1; cases h1
  | some q =>
    rw [hq] at h1
    obtain ⟨q1, q2⟩ := q
    cases h1
    have h2 := List.all_eq_true.mp am_ILok _ (am_lk_mem hq)
    simp only [am_Iok, decide_eq_true_eq] at h2
    exact List.mem_of_getElem? h2
theorem am_J {c i : Nat} {v : Int} (h : am_T0.2.2.2.1 c i = some v) : Cond.constantLong (am_own c) i (Int64.ofInt v) ∈ lw_tbl := by
  have h1 : (am_lk am_JL c i).map (fun q => q.1) = some v := h
  cases hq : am_lk am_JL c i with
  | none => rw [hq] at h1; cases h1
  | some q =>
    rw [hq] at h1
    obtain ⟨q1, q2⟩ := q
    cases h1
    have h2 := List.all_eq_true.mp am_JLok _ (am_lk_mem hq)
    simp only [am_Jok, decide_eq_true_eq] at h2
    exact List.mem_of_getElem? h2
theorem am_Bm {c i v : Nat} (h : am_T0.2.2.2.2 c i = v) (h1 : 1 ≤ v) : Cond.methodLink (am_own c) i (if v = 1 then Lib.Math.max.name else if v = 2 then Lib.Math.min.name else if v = 3 then Lib.MathLoose.max_long.x else Lib.MathLoose.abs_long.x) ∈ lw_tbl := by
  have h1' : ((am_lk am_BL c i).map (fun q => q.1)).getD 0 = v := h
  cases hq : am_lk am_BL c i with
  | none => rw [hq] at h1'; simp at h1'; omega
  | some q =>
    rw [hq] at h1'
    obtain ⟨q1, q2⟩ := q
    simp only [Option.map_some, Option.getD_some] at h1'
    subst h1'
    have h2 := List.all_eq_true.mp am_BLok _ (am_lk_mem hq)
    simp only [am_Bok, Bool.and_eq_true, decide_eq_true_eq] at h2
    exact List.mem_of_getElem? h2.1
theorem am_cats_map (ad : Nat → Nat) (st : List am_V) : ((st.map (am_cz ad)).map fun v => v.category).sum = am_cats st := by
  induction st with
  | nil => rfl
  | cons a t ih => simp only [List.map_cons, List.sum_cons, am_cz_cat, ih, am_cats]
theorem am_oks_take {st : List am_V} (h : am_oks st) (k : Nat) : am_oks (st.take k) := by
  induction st generalizing k with
  | nil => simp [am_oks]
  | cons a t ih => cases k with
    | zero => simp [am_oks]
    | succ k => exact ⟨h.1, ih h.2 k⟩
theorem am_oks_drop {st : List am_V} (h : am_oks st) (k : Nat) : am_oks (st.drop k) := by
  induction st generalizing k with
  | nil => simp [am_oks]
  | cons a t ih => cases k with
    | zero => exact h
    | succ k => exact ih h.2 k
theorem am_oks_app {a b : List am_V} (h : am_oks a) (h2 : am_oks b) : am_oks (a ++ b) := by
  induction a with
  | nil => exact h2
  | cons x t ih => exact ⟨h.1, ih h.2⟩
theorem am_oks_rev {a : List am_V} (h : am_oks a) : am_oks a.reverse := by
  induction a with
  | nil => exact h
  | cons x t ih => rw [List.reverse_cons]; exact am_oks_app (ih h.2) ⟨h.1, trivial⟩
theorem am_lc {x y : Int} (hx : rL x) (hy : rL y) : lg_cmp (Int64.ofInt x) (Int64.ofInt y) = Int32.ofInt (am_lcmp x y) := by
  unfold lg_cmp am_lcmp
  have h1 : (Int64.ofInt x > Int64.ofInt y) ↔ y < x := lj_lt hy hx
  have h2 := lj_eq hx hy
  by_cases h : y < x
  · rw [if_pos (h1.mpr h), if_pos h]; rfl
  · rw [if_neg (fun q => h (h1.mp q)), if_neg h]
    by_cases h3 : x = y
    · rw [if_pos (h2.mpr h3), if_pos h3]; rfl
    · rw [if_neg (fun q => h3 (h2.mp q)), if_neg h3]; rfl
theorem am_lcr (x y : Int) : rI (am_lcmp x y) := by
  unfold am_lcmp rI
  split
  · omega
  · split <;> omega
theorem am_idiv {x y : Int} (hx : rI x) (hy : rI y) : Int32.ofInt x / Int32.ofInt y = Int32.ofInt (wI (x.tdiv y)) := by
  rw [ij_w, ← Int32.toInt_inj, Int32.toInt_div, ij_r hx, ij_r hy]
  exact Int32.toInt_ofInt.symm
theorem am_ldiv {x y : Int} (hx : rL x) (hy : rL y) : Int64.ofInt x / Int64.ofInt y = Int64.ofInt (wL (x.tdiv y)) := by
  rw [lj_w, ← Int64.toInt_inj, Int64.toInt_div, lj_r hx, lj_r hy]
  exact Int64.toInt_ofInt.symm
theorem am_irem {x y : Int} (hx : rI x) (hy : rI y) : Int32.ofInt x - Int32.ofInt x / Int32.ofInt y * Int32.ofInt y = Int32.ofInt (wI (x.tmod y)) := by
  rw [am_idiv hx hy, ij_w, ij_w, ← Int32.ofInt_mul, ← Int32.ofInt_sub, Int.tmod_def, Int.mul_comm]
theorem am_lrem {x y : Int} (hx : rL x) (hy : rL y) : Int64.ofInt x - Int64.ofInt x / Int64.ofInt y * Int64.ofInt y = Int64.ofInt (wL (x.tmod y)) := by
  rw [am_ldiv hx hy, lj_w, lj_w, ← Int64.ofInt_mul, ← Int64.ofInt_sub, Int.tmod_def, Int.mul_comm]
theorem am_jm {pc : Nat} {off : Int} {f : Nat → Prop} (h : am_jmp pc off f) : ∃ tgt : Nat, (pc : Int) + off = (tgt : Int) ∧ f tgt := ⟨_, by have := h.1; omega, h.2⟩
theorem am_utb {C : String} {T : u_T} {N : Nat} (h : ∀ w ∈ u_ws C T N, w ∈ lw_tbl) : ∀ w ∈ u_ws C T N, w ∈ am_tb := fun w hw => am_tb_in (h w hw) (by
  obtain ⟨k, -, rfl⟩ := List.mem_map.mp hw
  unfold u_lay
  split <;> rfl)
end TIE
