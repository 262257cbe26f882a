section
/-! MAKING OBJECTS: cells that look alike, two worlds as one -/
variable {D : va_G} {cA : Nat → ClassId} {ad ad' : Nat → Nat} {lay lay' : Nat → Nat ⊕ (Nat × Nat)} {n k : Nat} {A : Nat → Prop}
theorem am_ce_cong {σ σ' : am_HS} {o o' : Nat} (hl : lay o = lay' o') (h1 : σ.1 o = σ'.1 o') (h2 : σ.2.1 o = σ'.2.1 o') (h3 : ∀ j, (σ.2.2 o j).map ad = (σ'.2.2 o' j).map ad') : am_ce cA ad lay σ o = am_ce cA ad' lay' σ' o' := by
  have e3 : (fun j => (σ.2.2 o j).map ad) = fun j => (σ'.2.2 o' j).map ad' := funext h3
  unfold am_ce
  rw [hl]
  cases lay' o' with
  | inl ci =>
    show (Sum.inr (ci, _) : va_E) = Sum.inr (ci, _)
    congr 2
    refine List.map_congr_left (fun k _ => ?_)
    unfold am_fv
    rw [h1, h2, h3 k]
  | inr z =>
    show (Sum.inl (cA z.1, z.2, am_ar ad σ o z.1) : va_E) = Sum.inl (cA z.1, z.2, am_ar ad' σ' o' z.1)
    have e2 : am_ar ad σ o z.1 = am_ar ad' σ' o' z.1 := by
      unfold am_ar
      rw [h1, h2, e3]
    rw [e2]
/-- the addresses of two worlds, one behind the other -/
def adJ (ad : Nat → Nat) (n : Nat) (ad' : Nat → Nat) : Nat → Nat := fun i => if i < n then ad i else ad' (i - n)
theorem am_wl_J {σ X σR : am_HS} (hrf : rfB σ n) (hl : ∀ o, o < n → X.1 o = σ.1 o ∧ X.2.1 o = σ.2.1 o ∧ X.2.2 o = σ.2.2 o) (hr : ∀ i, i < k → lay (n + i) = lay' i ∧ X.1 (n + i) = σR.1 i ∧ X.2.1 (n + i) = σR.2.1 i ∧ ∀ j, X.2.2 (n + i) j = (σR.2.2 i j).map (fun x => n + x)) : am_wl cA (adJ ad n ad') lay (n + k) X = am_wl cA ad lay n σ ++ am_wl cA ad' lay' k σR := by
  unfold am_wl
  rw [List.range_add, List.map_append, List.map_map]
  congr 1
  · refine List.map_congr_left (fun i hi => ?_)
    have hin := List.mem_range.mp hi
    obtain ⟨a1, a2, a3⟩ := hl i hin
    refine Prod.ext (if_pos hin) (am_ce_cong rfl a1 a2 (fun j => ?_))
    rw [a3]
    cases hz : σ.2.2 i j with
    | none => rfl
    | some x =>
      have := hrf i j x hin hz
      show some (if x < n then ad x else ad' (x - n)) = some (ad x)
      rw [if_pos this]
  · refine List.map_congr_left (fun i hi => ?_)
    have hin := List.mem_range.mp hi
    obtain ⟨a0, a1, a2, a3⟩ := hr i hin
    have e : adJ ad n ad' (n + i) = ad' i := by
      show (if n + i < n then ad (n + i) else ad' (n + i - n)) = ad' i
      rw [if_neg (by omega), show n + i - n = i by omega]
    refine Prod.ext e (am_ce_cong a0 a1 a2 (fun j => ?_))
    rw [a3]
    cases hz : σR.2.2 i j with
    | none => rfl
    | some x =>
      show some (if n + x < n then ad (n + x) else ad' (n + x - n)) = some (ad' x)
      rw [if_neg (by omega), show n + x - n = x by omega]
/-- nothing in it -/
def z0 : am_HS := (fun _ _ => 0, fun _ _ => 0, fun _ _ => none)
/-- the fields of a new object -/
def cn_fs (ci : Nat) : List Value := (List.range (am_nf ci)).map (am_fv (fun _ => 0) z0 0 ci)
theorem cn_fs_any {σ : am_HS} {o ci : Nat} (h1 : σ.1 o = fun _ => 0) (h2 : σ.2.1 o = fun _ => 0) (h3 : ∀ j, σ.2.2 o j = none) : (List.range (am_nf ci)).map (am_fv ad σ o ci) = cn_fs ci := by
  refine List.map_congr_left (fun j _ => ?_)
  unfold am_fv
  rw [h1, h2, h3 j]
  rfl
theorem cn_dv : ∀ (c : Nat) (t : FieldType), am_tyok c t = true → defaultValue t = (match c with | 0 => Value.int 0 | 1 => Value.int 0 | 2 => Value.long 0 | _ => Value.null) := by
  intro c t h
  match c with
  | 0 => cases t <;> first | rfl | cases h
  | 1 => cases t <;> first | rfl | cases h
  | 2 => cases t <;> first | rfl | cases h
  | 3 => cases t <;> first | rfl | cases h
  | c + 4 => cases t <;> cases h
theorem cn_fs_def {ci : Nat} {q : vw_C} (h : vwCl[ci]? = some q) : ∀ j, j < q.2.2 → defaultValue (am_tyf ci j) = vp_V (cn_fs ci) j := by
  intro j hj
  obtain ⟨_, u2, _, _, _, u6⟩ := am_Call h
  have hn : j < am_nf ci := by rw [← u2]; exact hj
  have e : vp_V (cn_fs ci) j = am_fv (fun _ => 0) z0 0 ci j := by
    unfold vp_V cn_fs
    rw [List.getD_eq_getElem?_getD, List.getElem?_map, List.getElem?_range hn]
    rfl
  rw [e, cn_dv _ _ (u6 j hj)]
  unfold am_fv
  generalize am_fty ci j = c
  match c with
  | 0 => rfl
  | 1 => rfl
  | 2 => rfl
  | c + 3 => rfl
end
section
/-! MAKING OBJECTS: what a maker is given and gives -/
variable {p : Program} {l : Launch} {e : Env} {s : State} {m : MethodId} {args : Array Value} {below : List Frame} {meth : Method} {c0 : Code} {D : va_G} {cA : Nat → ClassId} {A : Nat → Prop} {R : Room}
def cn_L : List (String × Nat × MethodName) := [(RX6, 27, yX1_init), (RX6, 34, yX2_init), (RX6, 41, yX0_init), (RX6, 49, yX5_init), (RX1, 17, yX0_init)]
def cn_N (U : State) : Prop := am_N U ∧ (∀ q ∈ cn_L, va_Nw (Cond.methodLinkNest q.1 q.2.1 q.2.2 "CourseHouse") U) ∧ va_AO RX5 U ∧ va_AO RX3 U
theorem cn_N.warm {s U : State} (hW : s.WarmedH U.vm) (h : cn_N s) : cn_N U := ⟨h.1.warm hW, fun q hq => va_Nw.warmM hW (h.2.1 q hq), va_AO.moved hW.alike h.2.2.1, va_AO.moved hW.alike h.2.2.2⟩
theorem cn_N.same {u U : State} (hvm : u.vm = U.vm) (h : cn_N u) : cn_N U := ⟨h.1.same hvm, fun q hq => va_Nw.same rfl hvm (h.2.1 q hq), va_AO.moved (hvm ▸ Vm.Alike.refl u.vm) h.2.2.1, va_AO.moved (hvm ▸ Vm.Alike.refl u.vm) h.2.2.2⟩
def cn_W (y : MethodName) (bytes : ByteArray) (maxL : Nat) : List Cond := .code y bytes maxL none :: am_tb
def cn_A (a sz : Nat) : Nat → Prop := fun q => q = a ∨ sz ≤ q
def cn_P (D : va_G) (cA : Nat → ClassId) (ci a sz : Nat) : State → Prop := fun U => U.heap.size = sz ∧ va_P D vwCl [(a, .inr (ci, cn_fs ci))] U.heap ∧ va_K D vwCl (am_tys cA) U ∧ cn_N U
def cn_B (D : va_G) (cA : Nat → ClassId) (A : Nat → Prop) (lay : Nat → Nat ⊕ (Nat × Nat)) (k : Nat) (σ1 : am_HS) (ad : Nat → Nat) : State → Prop := fun t => va_P D vwCl (am_wl cA ad lay k σ1) t.heap ∧ va_D A (am_wl cA ad lay k σ1)
theorem cn_blind {av : List Value} {ci a sz : Nat} : FrameBlind (va_Pc av (cn_P D cA ci a sz)) := fun b U g mk q => by
  obtain ⟨q0, q1, qP, qK, qN⟩ := q
  exact ⟨q0, q1, qP, va_K.moved (u := U) (U := U.calling g mk b) (Vm.Alike.refl U.vm) qK, qN.same rfl⟩
/-- a maker's promise -/
def cn_Met (l : Launch) (D : va_G) (cA : Nat → ClassId) (y : MethodName) (bytes : ByteArray) (maxL ci : Nat) (rm : Room) (lay : Nat → Nat ⊕ (Nat × Nat)) (k : Nat) (σ1 : am_HS) : Prop := ∀ a sz : Nat, Met l y (cn_W y bytes maxL) rm (va_Pc [.ref a] (cn_P D cA ci a sz)) (va_Qv (fun ad : Nat → Nat => ad 0 = a) (cn_B D cA (cn_A a sz) lay k σ1) (cn_A a sz)) rm.cells rm.slots (cn_A a sz)
/-- a maker's words -/
def cn_Y (y : MethodName) (bytes : ByteArray) (maxL : Nat) : Prop := Cond.code y bytes maxL none ∈ lw_tbl ∧ Cond.instanceMethod y ∈ lw_tbl ∧ Cond.initialized y.cls ∈ lw_tbl ∧ y.name = "<init>" ∧ y.cls ≠ "java/lang/invoke/MethodHandle" ∧ y.cls ≠ "java/lang/invoke/VarHandle" ∧ (parseMethodDescriptor y.desc).map (fun d => d.parameters.length) = some 0
/-- new, dup, and the maker's call -/
theorem mk_obj {own : String} {cc bytes : ByteArray} {y : MethodName} {C : String} {T : u_T} {N maxL nL ci idx j k pc cells slots : Nat} {rm : Room} {lay : Nat → Nat ⊕ (Nat × Nat)} {σ1 : am_HS} {ws : va_W} {H0 H : Heap} {locs : List Loc} {ls : Array Slot} {rest : List Value} {Q : State → Prop}
    (hx : p.tables.exec = Jvm.exec) (hb : c0.code = cc) (hml : c0.maxLocals = nL) (hls : ls.size = nL) (hown : s.vm.findClass own = some m.cls) (hts : ∀ w ∈ am_tb, w.before args s = true) (hK : va_K D vwCl (am_tys cA) s) (hN : cn_N s) (hP : va_P D vwCl ws H) (hD : va_D A ws) (hS : va_S A H0 H locs) (hA : ∀ q, H0.size ≤ q → A q)
    (hq : vwCl[ci]? = some (C, T, N)) (w1 : Cond.classLink own idx C ∈ lw_tbl) (w2 : Cond.instantiable C N ∈ lw_tbl) (w3 : Cond.initialized C ∈ lw_tbl) (hM : cn_Met l D cA y bytes maxL ci rm lay k σ1) (hY : cn_Y y bytes maxL) (hlk : Cond.methodLink own j y ∈ lw_tbl ∨ (own, j, y) ∈ cn_L)
    (hR : rm.frames + 1 ≤ R.frames ∧ 8 + (maxL + 11) + rm.locals ≤ R.locals) (hc : cells + 1 + rm.cells ≤ R.cells) (hs : slots + N + rm.slots ≤ R.slots) (hcat : (rest.map fun v => v.category).sum ≤ 7) (d0 : decode cc pc = .ok (.new idx, 3)) (d1 : decode cc (pc + 3) = .ok (.dup, 1)) (d2 : decode cc (pc + 4) = .ok (.invokespecial j, 3))
    (kk : ∀ (ad' : Nat → Nat) (H1 : Heap) (locs1 : List Loc), va_P D vwCl (ws ++ am_wl cA ad' lay k σ1) H1 → va_D A (ws ++ am_wl cA ad' lay k σ1) → va_S A H0 H1 locs1 → W p l e R s m args below meth c0 H1 locs1 (cells + 1 + rm.cells) (slots + N + rm.slots) Q (F0 m (pc + 7) ls (.ref (ad' 0) :: rest))) : W p l e R s m args below meth c0 H locs cells slots Q (F0 m pc ls rest) := by
  obtain ⟨u1, u2, u3, u4, u5, u6⟩ := am_Call hq
  obtain ⟨y1, y2, y3, y4, y5, y6, y7⟩ := hY
  refine va_new (C := C) (T := T) (N := N) (ci := ci) (fs := cn_fs ci) hx hb hts (am_utb u1) (am_tyf ci) u3 hown (hts _ (am_tb_in w1 rfl)) (hts _ (am_tb_in w2 rfl)) (hts _ (am_tb_in w3 rfl)) hK hP hD hS hA hq (cn_fs_def hq) (by omega) (by omega) d0 (fun q H1 hP1 hD1 hS1 => ?_)
  refine lv_dup hx hb d1 rfl ?_
  have hlast : (ws ++ [(q, (.inr (ci, cn_fs ci) : va_E))])[ws.length]? = some (q, .inr (ci, cn_fs ci)) := by
    rw [List.getElem?_append_right (Nat.le_refl _), Nat.sub_self]
    rfl
  have hPq : va_P D vwCl [(q, .inr (ci, cn_fs ci))] H1 := fun i x hi => by
    have hi1 : i < 1 := (List.getElem?_eq_some_iff.mp hi).1
    obtain rfl : i = 0 := by omega
    cases hi
    exact hP1 ws.length _ hlast
  have hWs : ∀ w ∈ cn_W y bytes maxL, w ∈ am_tb := fun w hw => by
    rcases List.mem_cons.mp hw with rfl | hw
    · exact am_tb_in y1 rfl
    · exact hw
  have hpre : PreS s H1 (va_Pc [.ref q] (cn_P D cA ci q H1.size)) [.ref q] := ⟨cn_blind, fun U hU hW => ⟨rfl, by rw [hU], by rw [hU]; exact hPq, va_K.moved hW.alike hK, hN.warm hW⟩⟩
  have hcat2 : ((Value.ref q :: rest).map fun v => v.category).sum ≤ 8 := by
    show 1 + (rest.map fun v => v.category).sum ≤ 8
    omega
  have hr : va_Run p l e R s m args below meth c0 H1 locs (cells + 1) (slots + N) rm.cells rm.slots (F0 m (pc + 3 + 1) ls (.ref q :: .ref q :: rest)) (.ref q :: rest) (va_Qv (fun ad : Nat → Nat => ad 0 = q) (cn_B D cA (cn_A q H1.size) lay k σ1) (cn_A q H1.size) [Value.ref q].toArray) (cn_A q H1.size) := by
    have hcode : Cond.code y bytes maxL none ∈ cn_W y bytes maxL := List.mem_cons_self
    have hlen : ∀ sig, parseMethodDescriptor y.desc = some sig → 0 = sig.parameters.length := fun sig h => by
      rw [h] at y7
      exact (Option.some.inj y7).symm
    rcases hlk with hlk | hlk
    · exact va_runI (As := []) (rest := .ref q :: rest) (Ts := am_tb) (nL := nL) (own := own) (bytes := bytes) (maxL := maxL) (n := 0) (index := j) ⟨hx, hb, hml, hown, hts⟩ (hM q H1.size) ⟨⟨rfl, rfl, hR.1, hR.2, pay_in hts (am_goodIn hWs), hcode, hts _ (hWs _ hcode), hts _ (am_tb_in y3 rfl), ⟨y5, y6⟩, hlen, hts _ (am_tb_in hlk rfl)⟩, y4, hts _ (am_tb_in y2 rfl)⟩ hpre rfl rfl hls rfl (lv_room hcat2) d2 ⟨hc, hs⟩
    · exact va_runIN (As := []) (rest := .ref q :: rest) (Ts := am_tb) (nL := nL) (own := own) (host := "CourseHouse") (bytes := bytes) (maxL := maxL) (n := 0) (index := j) ⟨hx, hb, hml, hown, hts⟩ (hM q H1.size) ⟨⟨⟨rfl, rfl, hR.1, hR.2, pay_in hts (am_goodIn hWs), hcode⟩, hts _ (hWs _ hcode), hts _ (am_tb_in y3 rfl), ⟨y5, y6⟩, hlen, va_Nw.use rfl (hN.2.1 _ hlk)⟩, y4, hts _ (am_tb_in y2 rfl)⟩ hpre rfl rfl hls rfl (lv_room hcat2) d2 ⟨hc, hs⟩
  have hfree : ∀ z, cn_A q H1.size z → A z := fun z hz => by
    rcases hz with rfl | hz
    · exact hD1.2 ws.length _ hlast
    · exact hA z (Nat.le_trans hS1.1 hz)
  refine va_callv hr hS1 (fun z _ hz => hfree z hz) hfree (fun ad' t H2 locs2 ht hvm hw hB hz hk hS2 => ?_)
  obtain ⟨hB1, hB2⟩ := hB
  rw [ht] at hB1
  have hpos : ∀ (i : Nat) (x : Nat × va_E), ws[i]? = some x → x.1 < H1.size ∧ ¬ cn_A q H1.size x.1 := fun i x hi => by
    have hil := (List.getElem?_eq_some_iff.mp hi).1
    have hi2 : (ws ++ [(q, (.inr (ci, cn_fs ci) : va_E))])[i]? = some x := by rw [List.getElem?_append_left hil]; exact hi
    have hlt := (hP1 i x hi2).lt
    refine ⟨hlt, fun hz => ?_⟩
    rcases hz with hz | hz
    · have := hD1.1 i ws.length x _ hi2 hlast hz
      omega
    · omega
  rw [show pc + 3 + 1 + 3 = pc + 7 by omega, ← hw]
  refine kk ad' H2 locs2 (va_P.app (fun i x hi => ?_) hB1) (va_D.app hD (hB2.weaken (fun _ x _ h => hfree x.1 h)) (fun i j x y hi hj he => (hpos i x hi).2 (by rw [he]; exact hB2.2 j y hj))) hS2
  have hil := (List.getElem?_eq_some_iff.mp hi).1
  have hi2 : (ws ++ [(q, (.inr (ci, cn_fs ci) : va_E))])[i]? = some x := by rw [List.getElem?_append_left hil]; exact hi
  exact (hP1 i x hi2).kept (hk x.1 (hpos i x hi).1 (hpos i x hi).2)
end
