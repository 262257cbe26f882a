section
/-! MAKING OBJECTS: the steps of a maker -/
variable {p : Program} {l : Launch} {e : Env} {s : State} {m : MethodId} {args : Array Value} {below : List Frame} {meth : Method} {c0 : Code} {D : va_G} {cA : Nat → ClassId} {ad : Nat → Nat} {lay : Nat → Nat ⊕ (Nat × Nat)} {A : Nat → Prop} {R : Room}
/-- made up to n: the rows of numbers, the cells named -/
def ck (I : Nat → Nat → Int32) (RK : Nat → Nat → Option Nat) (n : Nat) : am_HS := (I, fun _ _ => 0, fun o k => match RK o k with | some x => if x < n then some x else none | none => none)
theorem ck_rf (I : Nat → Nat → Int32) (RK : Nat → Nat → Option Nat) (n : Nat) : rfB (ck I RK n) n := fun o k x _ hx => by
  have hx : (match RK o k with | some x => if x < n then some x else none | none => none) = some x := hx
  cases hz : RK o k with
  | none => rw [hz] at hx; cases hx
  | some y =>
    rw [hz] at hx
    have hx : (if y < n then some y else none) = some x := hx
    by_cases w : y < n
    · rw [if_pos w] at hx
      cases hx
      exact w
    · rw [if_neg w] at hx
      cases hx
theorem ck_s {I : Nat → Nat → Int32} {RK : Nat → Nat → Option Nat} {k n : Nat} (h : RK 0 k = some n) (hu : ∀ o' k', RK o' k' = some n → o' = 0 ∧ k' = k) : uR (ck I RK n) 0 k (some n) = ck I RK (n + 1) := by
  unfold uR ck
  refine Prod.ext rfl (Prod.ext rfl (funext fun o' => funext fun k' => ?_))
  show (if o' = 0 ∧ k' = k then some n else match RK o' k' with | some x => if x < n then some x else none | none => none) = match RK o' k' with | some x => if x < n + 1 then some x else none | none => none
  by_cases z : o' = 0 ∧ k' = k
  · rw [if_pos z, z.1, z.2, h]
    show some n = if n < n + 1 then some n else none
    rw [if_pos (Nat.lt_succ_self n)]
  · rw [if_neg z]
    cases hz : RK o' k' with
    | none => rfl
    | some x =>
      show (if x < n then some x else none) = if x < n + 1 then some x else none
      have hx : x ≠ n := fun q => by
        rw [q] at hz
        exact z (hu o' k' hz)
      by_cases y : x < n
      · rw [if_pos y, if_pos (by omega)]
      · rw [if_neg y, if_neg (by omega)]
def mk_C (p : Program) (s : State) (m : MethodId) (args : Array Value) (meth : Method) (c0 : Code) (D : va_G) (cA : Nat → ClassId) (c : Nat) (cc : ByteArray) (nL : Nat) : Prop := p.tables.exec = Jvm.exec ∧ c0.code = cc ∧ c0.maxLocals = nL ∧ meth.locks = false ∧ s.vm.findClass (am_own c) = some m.cls ∧ (∀ w ∈ am_tb, w.before args s = true) ∧ meth.name = "<init>" ∧ meth.sig.returnType = none ∧ va_K D vwCl (am_tys cA) s ∧ cn_N s
def mk_G (D : va_G) (cA : Nat → ClassId) (A : Nat → Prop) (H0 : Heap) (lay : Nat → Nat ⊕ (Nat × Nat)) (n : Nat) (σ : am_HS) (ad : Nat → Nat) (H : Heap) (locs : List Loc) : Prop := va_P D vwCl (am_wl cA ad lay n σ) H ∧ va_D A (am_wl cA ad lay n σ) ∧ va_S A H0 H locs
set_option maxRecDepth 100000 in
theorem mk_oI : Cond.instanceMethod Lib.objectInit ∈ lw_tbl := List.mem_of_getElem? (i := 107) (by decide +kernel)
set_option maxRecDepth 100000 in
theorem mk_oC : Cond.code Lib.objectInit ⟨#[0xb1]⟩ 1 none ∈ lw_tbl := List.mem_of_getElem? (i := 108) (by decide +kernel)
theorem st_head {c nL idx cells slots : Nat} {cc : ByteArray} {H : Heap} {locs : List Loc} {ls : Array Slot} {a : Nat} {Q : State → Prop} (C : mk_C p s m args meth c0 D cA c cc nL) (hl : lv_has ls nL [(0, .ref a)]) (w1 : Cond.methodLink (am_own c) idx Lib.objectInit ∈ lw_tbl) (hR : 1 ≤ R.frames ∧ 12 ≤ R.locals) (d0 : decode cc 0 = .ok (.aload_n 0, 1)) (d1 : decode cc 1 = .ok (.invokespecial idx, 3)) (kk : W p l e R s m args below meth c0 H locs cells slots Q (F0 m 4 ls [])) : W p l e R s m args below meth c0 H locs cells slots Q (F0 m 0 ls []) := by
  obtain ⟨hx, hb, hml, hlocks, hown, hts, hin, hret, hK, hN⟩ := C
  refine lv_aload_n hx hb d0 rfl (lv_at hl 0 rfl) ?_
  exact W.objInit hx hb hown (hts _ (am_tb_in w1 rfl)) (hts _ (am_tb_in mk_oI rfl)) (hts _ (am_tb_in mk_oC rfl)) rfl (hl.1.trans hml.symm) rfl d1 hR.1 hR.2 kk
theorem st_end {c nL pc cells slots k a : Nat} {cc : ByteArray} {H : Heap} {locs : List Loc} {ls : Array Slot} {σ1 : am_HS} (C : mk_C p s m args meth c0 D cA c cc nL) (G : mk_G D cA A s.heap lay k σ1 ad H locs) (a0 : ad 0 = a) (d : decode cc pc = .ok (.return_, 1)) : W p l e R s m args below meth c0 H locs cells slots (MQ below (va_Qv (fun ad : Nat → Nat => ad 0 = a) (cn_B D cA A lay k σ1) A) args s cells slots A) (F0 m pc ls []) := by
  obtain ⟨hx, hb, hml, hlocks, hown, hts, hin, hret, hK, hN⟩ := C
  exact W.vret hx hb hret (fun t ht _ => ⟨⟨ad, rfl, a0, by rw [ht]; exact G.1, G.2.1⟩, G.2.2.F ht⟩) G.2.2.2.2 d hlocks
/-- a row, put into a field of the object -/
theorem st_arr {cc : ByteArray} {c i ci k kd N n pc pc1 pc2 nL cells slots a : Nat} {atype : ArrayType} {σ σ' : am_HS} {H0 H : Heap} {locs : List Loc} {ls : Array Slot} {x : Int32} {Q : State → Prop} (C : mk_C p s m args meth c0 D cA c cc nL) (hA : ∀ q, H0.size ≤ q → A q) (hl : lv_has ls nL [(0, .ref a)]) (l0 : lay 0 = .inl ci) (G : mk_G D cA A H0 lay n σ ad H locs) (a0 : ad 0 = a) (h0 : 0 < n) (harr : Cond.arrayClass (newarray.typeOf atype) ∈ lw_tbl) (hty : newarray.typeOf atype = am_aty kd) (hkd : kd < 4) (hlay : lay n = .inr (kd, N)) (hn : ¬ x < 0) (hN : x.toNatClampNeg = N) (hbytes : N * componentBytes (am_aty kd) ≤ 536870912) (hcells : cells + 1 ≤ R.cells) (hslots : slots + N ≤ R.slots) (hrf : rfB σ n) (hz1 : σ.1 n = fun _ => 0) (hz2 : σ.2.1 n = fun _ => 0) (hσ : uR σ 0 k (some n) = σ') (h1 : am_T0.1 c i = some (ci, k)) (e1 : am_fty ci k = 3) (hdc : ∀ q, vwCl[ci]? = some q → (q.2.1 k).1 = am_own c) (d0 : decode cc pc = .ok (.aload_n 0, 1)) (hpush : ∀ rest, W p l e R s m args below meth c0 H locs cells slots Q (F0 m pc1 ls (.int x :: rest)) → W p l e R s m args below meth c0 H locs cells slots Q (F0 m (pc + 1) ls rest)) (d1 : decode cc pc1 = .ok (.newarray atype, 2)) (d2 : decode cc (pc1 + 2) = .ok (.putfield i, 3)) (hpc : pc1 + 5 = pc2)
    (kk : ∀ (ad' : Nat → Nat) (H1 : Heap) (locs1 : List Loc), ad' 0 = a → mk_G D cA A H0 lay (n + 1) σ' ad' H1 locs1 → W p l e R s m args below meth c0 H1 locs1 (cells + 1) (slots + N) Q (F0 m pc2 ls [])) : W p l e R s m args below meth c0 H locs cells slots Q (F0 m pc ls []) := by
  obtain ⟨hx, hb, hml, hlocks, hown, hts, hin, hret, hK, hN'⟩ := C
  obtain ⟨hP, hD, hS⟩ := G
  refine lv_aload_n hx hb d0 rfl (lv_at hl 0 rfl) ?_
  refine hpush _ ?_
  refine mk_newa (k := kd) (N := N) hx hb (hts _ (am_tb_in harr rfl)) hty hkd hK hP hD hS hA hlay hz1 hz2 hrf hn hN hbytes hcells hslots d1 (fun q H1 hP1 hD1 hS1 => ?_)
  have b0 : adU ad n q 0 = a := (if_neg (by omega)).trans a0
  have b1 : adU ad n q n = q := if_pos rfl
  have key : W p l e R s m args below meth c0 H1 locs (cells + 1) (slots + N) Q (F0 m (pc1 + 2) ls [.ref (adU ad n q n), .ref (adU ad n q 0)]) := mk_putR (c := c) (i := i) (ci := ci) (k := k) (o := 0) (x := n) hx hb hown hts hK hP1 hD1 hS1 h1 e1 (Or.inr ⟨hin, hdc⟩) (by omega) l0 d2 (fun H2 locs2 hP2 hD2 hS2 => by
    rw [hσ] at hP2 hD2
    rw [show pc1 + 2 + 3 = pc2 by omega]
    exact kk (adU ad n q) H2 locs2 b0 ⟨hP2, hD2, hS2⟩)
  rw [b1, b0] at key
  exact key
/-- an object, put into a field of the object -/
theorem st_obj {cc bytes : ByteArray} {y : MethodName} {C2 : String} {T : u_T} {N maxL c i ci ci2 idx j k kR n pc nL cells slots a : Nat} {rm : Room} {layR : Nat → Nat ⊕ (Nat × Nat)} {σ X σR σ' : am_HS} {H0 H : Heap} {locs : List Loc} {ls : Array Slot} {Q : State → Prop} (C : mk_C p s m args meth c0 D cA c cc nL) (hA : ∀ q, H0.size ≤ q → A q) (hl : lv_has ls nL [(0, .ref a)]) (l0 : lay 0 = .inl ci) (G : mk_G D cA A H0 lay n σ ad H locs) (a0 : ad 0 = a) (h0 : 0 < n) (hq : vwCl[ci2]? = some (C2, T, N)) (w1 : Cond.classLink (am_own c) idx C2 ∈ lw_tbl) (w2 : Cond.instantiable C2 N ∈ lw_tbl) (w3 : Cond.initialized C2 ∈ lw_tbl) (hM : cn_Met l D cA y bytes maxL ci2 rm layR kR σR) (hY : cn_Y y bytes maxL) (hlk : Cond.methodLink (am_own c) j y ∈ lw_tbl ∨ (am_own c, j, y) ∈ cn_L) (hR : rm.frames + 1 ≤ R.frames ∧ 8 + (maxL + 11) + rm.locals ≤ R.locals) (hc : cells + 1 + rm.cells ≤ R.cells) (hs : slots + N + rm.slots ≤ R.slots) (hrf : rfB σ n) (hXl : ∀ o, o < n → X.1 o = σ.1 o ∧ X.2.1 o = σ.2.1 o ∧ X.2.2 o = σ.2.2 o) (hXr : ∀ i, i < kR → lay (n + i) = layR i ∧ X.1 (n + i) = σR.1 i ∧ X.2.1 (n + i) = σR.2.1 i ∧ ∀ j, X.2.2 (n + i) j = (σR.2.2 i j).map (fun x => n + x)) (hσ : uR X 0 k (some n) = σ') (h1 : am_T0.1 c i = some (ci, k)) (e1 : am_fty ci k = 3) (hdc : ∀ q, vwCl[ci]? = some q → (q.2.1 k).1 = am_own c) (d0 : decode cc pc = .ok (.aload_n 0, 1)) (d1 : decode cc (pc + 1) = .ok (.new idx, 3)) (d2 : decode cc (pc + 1 + 3) = .ok (.dup, 1)) (d3 : decode cc (pc + 1 + 4) = .ok (.invokespecial j, 3)) (d4 : decode cc (pc + 1 + 7) = .ok (.putfield i, 3))
    (kk : ∀ (ad' : Nat → Nat) (H1 : Heap) (locs1 : List Loc), ad' 0 = a → mk_G D cA A H0 lay (n + kR) σ' ad' H1 locs1 → W p l e R s m args below meth c0 H1 locs1 (cells + 1 + rm.cells) (slots + N + rm.slots) Q (F0 m (pc + 11) ls [])) : W p l e R s m args below meth c0 H locs cells slots Q (F0 m pc ls []) := by
  obtain ⟨hx, hb, hml, hlocks, hown, hts, hin, hret, hK, hN'⟩ := C
  obtain ⟨hP, hD, hS⟩ := G
  refine lv_aload_n hx hb d0 rfl (lv_at hl 0 rfl) ?_
  refine mk_obj hx hb hml hl.1 hown hts hK hN' hP hD hS hA hq w1 w2 w3 hM hY hlk hR hc hs (show 1 + 0 ≤ 7 by decide) d1 d2 d3 (fun ad' H1 locs1 hP1 hD1 hS1 => ?_)
  have eJ := am_wl_J (cA := cA) (ad := ad) (ad' := ad') (lay := lay) (lay' := layR) hrf hXl hXr
  rw [← eJ] at hP1 hD1
  have b0 : adJ ad n ad' 0 = a := (if_pos h0).trans a0
  have b1 : adJ ad n ad' n = ad' 0 := by
    show (if n < n then ad n else ad' (n - n)) = ad' 0
    rw [if_neg (Nat.lt_irrefl n), Nat.sub_self]
  have key : W p l e R s m args below meth c0 H1 locs1 (cells + 1 + rm.cells) (slots + N + rm.slots) Q (F0 m (pc + 1 + 7) ls [.ref (adJ ad n ad' n), .ref (adJ ad n ad' 0)]) := mk_putR (c := c) (i := i) (ci := ci) (k := k) (o := 0) (x := n) hx hb hown hts hK hP1 hD1 hS1 h1 e1 (Or.inr ⟨hin, hdc⟩) (by omega) l0 d4 (fun H2 locs2 hP2 hD2 hS2 => by
    rw [hσ] at hP2 hD2
    exact kk (adJ ad n ad') H2 locs2 b0 ⟨hP2, hD2, hS2⟩)
  rw [b1, b0] at key
  exact key
/-- a maker's promise, out of its walk from pc 4 on -/
theorem mk_met {y : MethodName} {bytes : ByteArray} {maxL c ci idx k : Nat} {rm : Room} {σ1 : am_HS} (hy : plainName y.cls = true) (hcl : y.cls = am_own c) (hyn : y.name = "<init>") (h1 : 1 ≤ maxL) (l0 : lay 0 = .inl ci) (w1 : Cond.methodLink (am_own c) idx Lib.objectInit ∈ lw_tbl) (hR : 1 ≤ rm.frames ∧ 12 ≤ rm.locals) (d0 : decode bytes 0 = .ok (.aload_n 0, 1)) (d1 : decode bytes 1 = .ok (.invokespecial idx, 3))
    (body : ∀ (p : Program) (e : Env) (s : State) (m : MethodId) (args : Array Value) (below : List Frame) (meth : Method) (c0 : Code) (a : Nat) (A : Nat → Prop) (ls : Array Slot), mk_C p s m args meth c0 D cA c bytes maxL → (∀ q, s.heap.size ≤ q → A q) → mk_G D cA A s.heap lay 1 z0 (fun _ => a) s.heap [] → lv_has ls maxL [(0, .ref a)] → W p l e rm s m args below meth c0 s.heap [] 0 0 (MQ below (va_Qv (fun ad : Nat → Nat => ad 0 = a) (cn_B D cA A lay k σ1) A) args s rm.cells rm.slots A) (F0 m 4 ls [])) : cn_Met l D cA y bytes maxL ci rm lay k σ1 := by
  intro a sz
  refine Met.ofW (cc := bytes) (maxL := maxL) (ret := none) hy rfl ?_
  intro p e s m args' below meth c0 s₁ B hml hv
  obtain ⟨rfl, hsz, hP, hK, hN⟩ := hv
  subst hsz
  have hts0 : ∀ w ∈ cn_W y bytes maxL, w.before ([Value.ref a]).toArray s = true := atoms_spec (ws := cn_W y bytes maxL) B.pre
  have hl := lv_entry ([.ref a]) (n := maxL) h1
  rw [lg_entry_eq]
  generalize (lg_sl ([.ref a]) ++ List.replicate (maxL - (lg_sl ([.ref a])).length) Slot.unset).toArray = ls at hl ⊢
  have hown : s.vm.findClass (am_own c) = some m.cls := by
    have := findClass_of_methodNamed B.named
    rw [hcl] at this
    exact this
  have hin : meth.name = "<init>" := (name_of_methodNamed B.named B.method).1.trans hyn
  have C : mk_C p s m ([Value.ref a]).toArray meth c0 D cA c bytes maxL := ⟨B.exec, B.bytes, hml, B.notSynchronized, hown, fun w hw => hts0 w (List.mem_cons_of_mem _ hw), hin, B.returns, hK, hN⟩
  have ew : am_wl cA (fun _ => a) lay 1 z0 = [(a, .inr (ci, cn_fs ci))] := by
    show [(a, am_ce cA (fun _ => a) lay z0 0)] = _
    rw [am_ce_o l0, cn_fs_any rfl rfl (fun _ => rfl)]
  have G : mk_G D cA (cn_A a s.heap.size) s.heap lay 1 z0 (fun _ => a) s.heap [] := by
    refine ⟨by rw [ew]; exact hP, ?_, va_S.rf⟩
    rw [ew]
    refine ⟨fun i j x y hi hj _ => ?_, fun i x hi => ?_⟩
    · have hi1 : i < 1 := (List.getElem?_eq_some_iff.mp hi).1
      have hj1 : j < 1 := (List.getElem?_eq_some_iff.mp hj).1
      omega
    · have hi1 : i < 1 := (List.getElem?_eq_some_iff.mp hi).1
      obtain rfl : i = 0 := by omega
      cases hi
      exact Or.inl rfl
  exact st_head C hl w1 hR d0 d1 (body p e s m _ below meth c0 a (cn_A a s.heap.size) ls C (fun q h => Or.inr h) G hl)
end
