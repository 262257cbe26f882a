/-! THE TIE, behind cells that were made -/
section TIEG
variable {p : Program} {l : Launch} {e : Env} {s : State} {m : MethodId} {args : Array Value} {below : List Frame} {meth : Method} {c0 : Code} {D : va_G} {cA : Nat → ClassId} {ad : Nat → Nat} {lay : Nat → Nat ⊕ (Nat × Nat)} {n : Nat} {A : Nat → Prop} {R : Room}
/-- behind a call -/
theorem am_callG {cells slots : Nat} {E' : Option am_V} {σ1 : am_HS} {H H0 : Heap} {locs : List Loc} {pc : Nat} {ls : Array Slot} {st0 rest : List Value} {a : Array Value} {Q : State → Prop}
    (hr : va_Run p l e R s m args below meth c0 H locs cells slots 0 0 (F0 m pc ls st0) rest (am_Q D cA ad lay n A E' σ1 a) A) (hS : va_S A H0 H locs)
    (kk : ∀ (t : State) (H1 : Heap) (locs1 : List Loc), t.heap = H1 → s.vm.Alike t.vm → (∀ v, E' = some v → am_ok v) → am_Bd D cA ad lay n σ1 t → va_S A H0 H1 locs1 → W p l e R s m args below meth c0 H1 locs1 cells slots Q (F0 m (pc + 3) ls ((E'.map (am_cz ad)).toList ++ rest))) : W p l e R s m args below meth c0 H locs cells slots Q (F0 m pc ls st0) := by
  intro T hT X
  obtain ⟨v, st₀, t, T', L, h0, X', hL, e1, e2, ⟨⟨hv, hok, hb⟩, hz, hk⟩, st⟩ := hr T hT X
  cases hv
  rw [h0] at hz hk
  obtain ⟨t2, a1, b1⟩ := kk t T'.heap (locs ++ L) e1.symm (by rw [← e2]; exact X'.warmed.alike) hok hb
    ⟨Nat.le_trans hS.1 (by rw [e1]; exact hz), fun q h1 h2 => by rw [e1, hk q (Nat.lt_of_lt_of_le h1 hS.1) h2]; exact hS.2.1 q h1 h2, fun q hq => by
      rcases List.mem_append.mp hq with h | h
      · exact hS.2.2 q h
      · exact hL q h⟩ T' rfl X'
  exact ⟨t2, st t2 a1, b1⟩
set_option maxHeartbeats 4000000 in
theorem am_tieG {E : Nat → am_HS → List am_V → Option am_V → am_HS → Prop} {c nL rt d : Nat} {bb : ByteArray} {own : String} {cells slots : Nat} (hcl : cells ≤ R.cells ∧ slots ≤ R.slots)
    (hx : p.tables.exec = Jvm.exec) (hb : c0.code = bb) (hml : c0.maxLocals = nL) (hlocks : meth.locks = false) (hown : s.vm.findClass (am_own c) = some m.cls) (hts : ∀ w ∈ am_tb, w.before args s = true)
    (hrt : am_rtok rt meth.sig.returnType = true) (hK : va_K D vwCl (am_tys cA) s) (hD : ∀ σ, va_D A (am_wl cA ad lay n σ)) (hly : am_lyok lay n) (hR : d + 1 ≤ R.frames ∧ 40 * (d + 1) ≤ R.locals) (hE : am_SE l D cA ad lay n A d E) (hN : am_N s) :
    ∀ (f pc : Nat) (lv : am_LV) (st : List am_V) (σ : am_HS) (r : Option am_V) (σ1 : am_HS) (H : Heap) (locs : List Loc) (ls : Array Slot), am_gi am_T0 am_M0 lay E c nL rt bb f pc lv st σ r σ1 → va_P D vwCl (am_wl cA ad lay n σ) H → va_S A s.heap H locs → lv_has ls nL (am_kn ad lv) → am_oks st → am_okl lv →
    W p l e R s m args below meth c0 H locs cells slots (MQ below (am_Q D cA ad lay n A r σ1) args s cells slots A) (F0 m pc ls (st.map (am_cz ad))) := by
  intro f
  induction f with
  | zero => intro pc lv st σ r σ1 H locs ls h; exact h.elim
  | succ f ih =>
    intro pc lv st σ r σ1 H locs ls h hP hS hl hst hlv
    unfold am_gi at h
    cases hd : decode bb pc with
    | error x => rw [hd] at h; exact h.elim
    | ok q =>
      obtain ⟨ins, len⟩ := q
      rw [hd] at h
      dsimp only at h
      cases ins with
      | iconst i =>
        obtain ⟨rfl, h⟩ := h
        obtain ⟨h1, h⟩ := h
        exact lv_iconst (v := Int32.ofInt i) hx hb hd rfl (ih _ _ _ _ _ _ _ _ _ h hP hS hl ⟨h1, hst⟩ hlv)
      | bipush i =>
        obtain ⟨rfl, h⟩ := h
        obtain ⟨h1, h⟩ := h
        refine lv_bipush (v := Int32.ofInt i) hx hb hd ?_ (ih _ _ _ _ _ _ _ _ _ h hP hS hl ⟨⟨by omega, by omega⟩, hst⟩ hlv)
        rw [← Int32.toInt_inj, ij_r ⟨by omega, by omega⟩, Int8.toInt_toInt32]
        exact Int8.toInt_ofInt_of_le (by omega) (by omega)
      | sipush i =>
        obtain ⟨rfl, h⟩ := h
        obtain ⟨h1, h⟩ := h
        refine lv_sipush (v := Int32.ofInt i) hx hb hd ?_ (ih _ _ _ _ _ _ _ _ _ h hP hS hl ⟨⟨by omega, by omega⟩, hst⟩ hlv)
        rw [← Int32.toInt_inj, ij_r ⟨by omega, by omega⟩, Int16.toInt_toInt32]
        exact Int16.toInt_ofInt_of_le (by omega) (by omega)
      | lconst i =>
        obtain ⟨rfl, h⟩ := h
        exact lv_lconst (v := Int64.ofInt ((i : Nat) : Int)) hx hb hd (Int64.ofInt_eq_ofNat).symm (ih _ _ _ _ _ _ _ _ _ h hP hS hl ⟨⟨by have := i.2; omega, by have := i.2; omega⟩, hst⟩ hlv)
      | aconst_null =>
        obtain ⟨rfl, h⟩ := h
        exact lv_null hx hb hd (ih _ _ _ _ _ _ _ _ _ h hP hS hl ⟨trivial, hst⟩ hlv)
      | iload_n k =>
        obtain ⟨rfl, h⟩ := h
        obtain ⟨x, h1, h⟩ := h
        exact lv_iload_n hx hb hd rfl (am_loc hl h1) (ih _ _ _ _ _ _ _ _ _ h hP hS hl ⟨hlv _ _ h1, hst⟩ hlv)
      | iload k =>
        obtain ⟨rfl, h⟩ := h
        obtain ⟨x, h1, h⟩ := h
        exact lv_iload hx hb hd (am_loc hl h1) (ih _ _ _ _ _ _ _ _ _ h hP hS hl ⟨hlv _ _ h1, hst⟩ hlv)
      | lload_n k =>
        obtain ⟨rfl, h⟩ := h
        obtain ⟨x, h1, h⟩ := h
        exact lv_lload_n hx hb hd rfl (am_loc hl h1) (ih _ _ _ _ _ _ _ _ _ h hP hS hl ⟨hlv _ _ h1, hst⟩ hlv)
      | lload k =>
        obtain ⟨rfl, h⟩ := h
        obtain ⟨x, h1, h⟩ := h
        exact lv_lload hx hb hd (am_loc hl h1) (ih _ _ _ _ _ _ _ _ _ h hP hS hl ⟨hlv _ _ h1, hst⟩ hlv)
      | aload_n k =>
        obtain ⟨rfl, h⟩ := h
        obtain ⟨x, h1, h⟩ := h
        have h2 := ih _ _ _ _ _ _ _ _ _ h hP hS hl ⟨trivial, hst⟩ hlv
        cases x with
        | none => exact lv_aload_nN hx hb hd rfl (am_loc hl h1) h2
        | some x => exact lv_aload_n hx hb hd rfl (am_loc hl h1) h2
      | aload k =>
        obtain ⟨rfl, h⟩ := h
        obtain ⟨x, h1, h⟩ := h
        have h2 := ih _ _ _ _ _ _ _ _ _ h hP hS hl ⟨trivial, hst⟩ hlv
        cases x with
        | none => exact lv_aloadN hx hb hd (am_loc hl h1) h2
        | some x => exact lv_aload hx hb hd (am_loc hl h1) h2
      | istore_n k =>
        obtain ⟨rfl, h⟩ := h
        obtain ⟨x, r, rfl, h1, h9⟩ := ap1_e h; have h := h9; clear h9
        exact lv_istore_n hx hb hd rfl hl h1 rfl (fun ls hl => ih _ _ _ _ _ _ _ _ _ h hP hS (am_has_1 (v := vI x) hl) hst.2 (am_okl_1 hlv hst.1))
      | lstore_n k =>
        obtain ⟨rfl, h⟩ := h
        obtain ⟨x, r, rfl, h1, h9⟩ := aq1_e h; have h := h9; clear h9
        exact lv_lstore_n hx hb hd rfl hl h1 rfl (fun ls hl => ih _ _ _ _ _ _ _ _ _ h hP hS (am_has_2 (v := vL x) hl) hst.2 (am_okl_2 hlv hst.1))
      | astore_n k =>
        obtain ⟨rfl, h⟩ := h
        obtain ⟨x, r, rfl, h1, h9⟩ := ar1_e h; have h := h9; clear h9
        cases x with
        | none => exact lv_astore_nN hx hb hd rfl hl h1 rfl (fun ls hl => ih _ _ _ _ _ _ _ _ _ h hP hS (am_has_1 (v := vR none) hl) hst.2 (am_okl_1 hlv hst.1))
        | some x => exact lv_astore_n hx hb hd rfl hl h1 rfl (fun ls hl => ih _ _ _ _ _ _ _ _ _ h hP hS (am_has_1 (v := vR (some x)) hl) hst.2 (am_okl_1 hlv hst.1))
      | istore k =>
        obtain ⟨rfl, h⟩ := h
        obtain ⟨x, r, rfl, h1, h9⟩ := ap1_e h; have h := h9; clear h9
        exact lv_istore hx hb hd hl h1 rfl (fun ls hl => ih _ _ _ _ _ _ _ _ _ h hP hS (am_has_1 (v := vI x) hl) hst.2 (am_okl_1 hlv hst.1))
      | lstore k =>
        obtain ⟨rfl, h⟩ := h
        obtain ⟨x, r, rfl, h1, h9⟩ := aq1_e h; have h := h9; clear h9
        exact lv_lstore hx hb hd hl h1 rfl (fun ls hl => ih _ _ _ _ _ _ _ _ _ h hP hS (am_has_2 (v := vL x) hl) hst.2 (am_okl_2 hlv hst.1))
      | astore k =>
        obtain ⟨rfl, h⟩ := h
        obtain ⟨x, r, rfl, h1, h9⟩ := ar1_e h; have h := h9; clear h9
        cases x with
        | none => exact lv_astoreN hx hb hd hl h1 rfl (fun ls hl => ih _ _ _ _ _ _ _ _ _ h hP hS (am_has_1 (v := vR none) hl) hst.2 (am_okl_1 hlv hst.1))
        | some x => exact lv_astore hx hb hd hl h1 rfl (fun ls hl => ih _ _ _ _ _ _ _ _ _ h hP hS (am_has_1 (v := vR (some x)) hl) hst.2 (am_okl_1 hlv hst.1))
      | iinc k i =>
        obtain ⟨rfl, h⟩ := h
        obtain ⟨h1, x, h2, h⟩ := h
        obtain ⟨j, hj⟩ := List.getElem?_of_mem (am_kn_mem (ad := ad) (q := (k, am_cz ad (vI x))).mpr ⟨_, h2, rfl⟩)
        refine lv_iinc (v := Int32.ofInt (wI (x + i))) hx hb hd hl hj ?_ h1 rfl (fun ls hl => ih _ _ _ _ _ _ _ _ _ h hP hS (am_has_1 (v := vI (wI (x + i))) hl) hst (am_okl_1 hlv (wI_r _)))
        rw [ij_w, Int32.ofInt_add]
      | iadd =>
        obtain ⟨rfl, h⟩ := h
        obtain ⟨x, y, r, rfl, h9⟩ := ap2_e h; have h := h9; clear h9
        have h2 := ih _ _ _ _ _ _ _ _ _ h hP hS hl ⟨wI_r _, hst.2.2⟩ hlv
        have e1 : Int32.ofInt (wI (x + y)) = Int32.ofInt x + Int32.ofInt y := by rw [ij_w, Int32.ofInt_add]
        refine lv_iadd hx hb hd ?_
        rw [← e1]
        exact h2
      | isub =>
        obtain ⟨rfl, h⟩ := h
        obtain ⟨x, y, r, rfl, h9⟩ := ap2_e h; have h := h9; clear h9
        have h2 := ih _ _ _ _ _ _ _ _ _ h hP hS hl ⟨wI_r _, hst.2.2⟩ hlv
        have e1 : Int32.ofInt (wI (x - y)) = Int32.ofInt x - Int32.ofInt y := by rw [ij_w, Int32.ofInt_sub]
        refine lv_isub hx hb hd ?_
        rw [← e1]
        exact h2
      | imul =>
        obtain ⟨rfl, h⟩ := h
        obtain ⟨x, y, r, rfl, h9⟩ := ap2_e h; have h := h9; clear h9
        have h2 := ih _ _ _ _ _ _ _ _ _ h hP hS hl ⟨wI_r _, hst.2.2⟩ hlv
        have e1 : Int32.ofInt (wI (x * y)) = Int32.ofInt x * Int32.ofInt y := by rw [ij_w, Int32.ofInt_mul]
        refine lv_imul hx hb hd ?_
        rw [← e1]
        exact h2
      | ladd =>
        obtain ⟨rfl, h⟩ := h
        obtain ⟨x, y, r, rfl, h9⟩ := aq2_e h; have h := h9; clear h9
        have h2 := ih _ _ _ _ _ _ _ _ _ h hP hS hl ⟨wL_r _, hst.2.2⟩ hlv
        have e1 : Int64.ofInt (wL (x + y)) = Int64.ofInt x + Int64.ofInt y := by rw [lj_w, Int64.ofInt_add]
        refine lv_ladd hx hb hd ?_
        rw [← e1]
        exact h2
      | lsub =>
        obtain ⟨rfl, h⟩ := h
        obtain ⟨x, y, r, rfl, h9⟩ := aq2_e h; have h := h9; clear h9
        have h2 := ih _ _ _ _ _ _ _ _ _ h hP hS hl ⟨wL_r _, hst.2.2⟩ hlv
        have e1 : Int64.ofInt (wL (x - y)) = Int64.ofInt x - Int64.ofInt y := by rw [lj_w, Int64.ofInt_sub]
        refine lv_lsub hx hb hd ?_
        rw [← e1]
        exact h2
      | lmul =>
        obtain ⟨rfl, h⟩ := h
        obtain ⟨x, y, r, rfl, h9⟩ := aq2_e h; have h := h9; clear h9
        have h2 := ih _ _ _ _ _ _ _ _ _ h hP hS hl ⟨wL_r _, hst.2.2⟩ hlv
        have e1 : Int64.ofInt (wL (x * y)) = Int64.ofInt x * Int64.ofInt y := by rw [lj_w, Int64.ofInt_mul]
        refine lv_lmul hx hb hd ?_
        rw [← e1]
        exact h2
      | idiv =>
        obtain ⟨rfl, h⟩ := h
        obtain ⟨x, y, r, rfl, h1, h⟩ := ap2_e h
        have h2 := ih _ _ _ _ _ _ _ _ _ h hP hS hl ⟨wI_r _, hst.2.2⟩ hlv
        refine lv_idiv hx hb hd (by rw [ij_0, ij_eq hst.1 r_0]; exact h1) ?_
        rw [am_idiv hst.2.1 hst.1]
        exact h2
      | irem =>
        obtain ⟨rfl, h⟩ := h
        obtain ⟨x, y, r, rfl, h1, h⟩ := ap2_e h
        have h2 := ih _ _ _ _ _ _ _ _ _ h hP hS hl ⟨wI_r _, hst.2.2⟩ hlv
        refine lv_irem hx hb hd (by rw [ij_0, ij_eq hst.1 r_0]; exact h1) ?_
        rw [am_irem hst.2.1 hst.1]
        exact h2
      | ldiv =>
        obtain ⟨rfl, h⟩ := h
        obtain ⟨x, y, r, rfl, h1, h⟩ := aq2_e h
        have h2 := ih _ _ _ _ _ _ _ _ _ h hP hS hl ⟨wL_r _, hst.2.2⟩ hlv
        refine lv_ldiv hx hb hd (by rw [show (0 : Int64) = Int64.ofInt 0 from rfl, lj_eq hst.1 ⟨by decide, by decide⟩]; exact h1) ?_
        rw [am_ldiv hst.2.1 hst.1]
        exact h2
      | lrem =>
        obtain ⟨rfl, h⟩ := h
        obtain ⟨x, y, r, rfl, h1, h⟩ := aq2_e h
        have h2 := ih _ _ _ _ _ _ _ _ _ h hP hS hl ⟨wL_r _, hst.2.2⟩ hlv
        refine lv_lrem hx hb hd (by rw [show (0 : Int64) = Int64.ofInt 0 from rfl, lj_eq hst.1 ⟨by decide, by decide⟩]; exact h1) ?_
        rw [am_lrem hst.2.1 hst.1]
        exact h2
      | iand =>
        obtain ⟨rfl, h⟩ := h
        obtain ⟨x, y, r, rfl, h9⟩ := ap2_e h; have h := h9; clear h9
        have h2 := ih _ _ _ _ _ _ _ _ _ h hP hS hl ⟨i_tr _, hst.2.2⟩ hlv
        refine lv_iand hx hb hd ?_
        rw [← ij_t (Int32.ofInt x &&& Int32.ofInt y)]
        exact h2
      | ior =>
        obtain ⟨rfl, h⟩ := h
        obtain ⟨x, y, r, rfl, h9⟩ := ap2_e h; have h := h9; clear h9
        have h2 := ih _ _ _ _ _ _ _ _ _ h hP hS hl ⟨i_tr _, hst.2.2⟩ hlv
        refine lv_ior hx hb hd ?_
        rw [← ij_t (Int32.ofInt x ||| Int32.ofInt y)]
        exact h2
      | ixor =>
        obtain ⟨rfl, h⟩ := h
        obtain ⟨x, y, r, rfl, h9⟩ := ap2_e h; have h := h9; clear h9
        have h2 := ih _ _ _ _ _ _ _ _ _ h hP hS hl ⟨i_tr _, hst.2.2⟩ hlv
        refine lv_ixor hx hb hd ?_
        rw [← ij_t (Int32.ofInt x ^^^ Int32.ofInt y)]
        exact h2
      | ishl =>
        obtain ⟨rfl, h⟩ := h
        obtain ⟨x, y, r, rfl, h9⟩ := ap2_e h; have h := h9; clear h9
        have h2 := ih _ _ _ _ _ _ _ _ _ h hP hS hl ⟨i_tr _, hst.2.2⟩ hlv
        refine lv_ishl hx hb hd ?_
        rw [← ij_t (Int32.ofInt x <<< (Int32.ofInt y &&& 31))]
        exact h2
      | ishr =>
        obtain ⟨rfl, h⟩ := h
        obtain ⟨x, y, r, rfl, h9⟩ := ap2_e h; have h := h9; clear h9
        have h2 := ih _ _ _ _ _ _ _ _ _ h hP hS hl ⟨i_tr _, hst.2.2⟩ hlv
        refine lv_ishr hx hb hd ?_
        rw [← ij_t (Int32.ofInt x >>> (Int32.ofInt y &&& 31))]
        exact h2
      | iushr =>
        obtain ⟨rfl, h⟩ := h
        obtain ⟨x, y, r, rfl, h9⟩ := ap2_e h; have h := h9; clear h9
        have h2 := ih _ _ _ _ _ _ _ _ _ h hP hS hl ⟨i_tr _, hst.2.2⟩ hlv
        exact lv_iushr hx hb hd (ij_t _).symm h2
      | ineg =>
        obtain ⟨rfl, h⟩ := h
        obtain ⟨x, r, rfl, h9⟩ := ap1_e h; have h := h9; clear h9
        have h2 := ih _ _ _ _ _ _ _ _ _ h hP hS hl ⟨wI_r _, hst.2⟩ hlv
        have e1 : Int32.ofInt (wI (-x)) = -Int32.ofInt x := by rw [ij_w, Int32.ofInt_neg]
        refine lv_ineg hx hb hd ?_
        rw [← e1]
        exact h2
      | lneg =>
        obtain ⟨rfl, h⟩ := h
        obtain ⟨x, r, rfl, h9⟩ := aq1_e h; have h := h9; clear h9
        have h2 := ih _ _ _ _ _ _ _ _ _ h hP hS hl ⟨wL_r _, hst.2⟩ hlv
        have e1 : Int64.ofInt (wL (-x)) = -Int64.ofInt x := by rw [lj_w, Int64.ofInt_neg]
        refine lv_lneg hx hb hd ?_
        rw [← e1]
        exact h2
      | land =>
        obtain ⟨rfl, h⟩ := h
        obtain ⟨x, y, r, rfl, h9⟩ := aq2_e h; have h := h9; clear h9
        have h2 := ih _ _ _ _ _ _ _ _ _ h hP hS hl ⟨l_tr _, hst.2.2⟩ hlv
        refine lv_land hx hb hd ?_
        rw [← lj_t (Int64.ofInt x &&& Int64.ofInt y)]
        exact h2
      | lor =>
        obtain ⟨rfl, h⟩ := h
        obtain ⟨x, y, r, rfl, h9⟩ := aq2_e h; have h := h9; clear h9
        have h2 := ih _ _ _ _ _ _ _ _ _ h hP hS hl ⟨l_tr _, hst.2.2⟩ hlv
        refine lv_lor hx hb hd ?_
        rw [← lj_t (Int64.ofInt x ||| Int64.ofInt y)]
        exact h2
      | lshl =>
        obtain ⟨rfl, h⟩ := h
        obtain ⟨x, y, r, rfl, h9⟩ := aqi_e h; have h := h9; clear h9
        have h2 := ih _ _ _ _ _ _ _ _ _ h hP hS hl ⟨l_tr _, hst.2.2⟩ hlv
        exact lv_lshl hx hb hd (lj_t _).symm h2
      | lshr =>
        obtain ⟨rfl, h⟩ := h
        obtain ⟨x, y, r, rfl, h9⟩ := aqi_e h; have h := h9; clear h9
        have h2 := ih _ _ _ _ _ _ _ _ _ h hP hS hl ⟨l_tr _, hst.2.2⟩ hlv
        exact lv_lshr hx hb hd (lj_t _).symm h2
      | lcmp =>
        obtain ⟨rfl, h⟩ := h
        obtain ⟨x, y, r, rfl, h9⟩ := aq2_e h; have h := h9; clear h9
        have h2 := ih _ _ _ _ _ _ _ _ _ h hP hS hl ⟨am_lcr _ _, hst.2.2⟩ hlv
        refine W.lcmp hx hb hd ?_
        rw [am_lc hst.2.1 hst.1]
        exact h2
      | i2l =>
        obtain ⟨rfl, h⟩ := h
        obtain ⟨x, r, rfl, h9⟩ := ap1_e h; have h := h9; clear h9
        have hr := hst.1
        refine lv_i2l (v := Int64.ofInt x) hx hb hd ?_ (ih _ _ _ _ _ _ _ _ _ h hP hS hl ⟨⟨by have := hr.1; omega, by have := hr.2; omega⟩, hst.2⟩ hlv)
        rw [← Int64.toInt_inj, Int32.toInt_toInt64, ij_r hr, lj_r ⟨by have := hr.1; omega, by have := hr.2; omega⟩]
      | l2i =>
        obtain ⟨rfl, h⟩ := h
        obtain ⟨x, r, rfl, h9⟩ := aq1_e h; have h := h9; clear h9
        have h2 := ih _ _ _ _ _ _ _ _ _ h hP hS hl ⟨wI_r _, hst.2⟩ hlv
        refine lv_l2i (v := Int32.ofInt (wI x)) hx hb hd ?_ h2
        rw [ij_w, ← Int32.toInt_inj, Int64.toInt_toInt32, lj_r hst.1]
        exact Int32.toInt_ofInt.symm
      | i2b =>
        obtain ⟨rfl, h⟩ := h
        obtain ⟨x, r, rfl, h9⟩ := ap1_e h; have h := h9; clear h9
        have h2 := ih _ _ _ _ _ _ _ _ _ h hP hS hl ⟨i_tr _, hst.2⟩ hlv
        exact lv_i2b hx hb hd (ij_t _).symm h2
      | dup =>
        obtain ⟨rfl, h⟩ := h
        cases st with
        | nil => exact h.elim
        | cons v st => exact lv_dup hx hb hd ((am_cz_cat ad v).trans h.1) (ih _ _ _ _ _ _ _ _ _ h.2 hP hS hl ⟨hst.1, hst⟩ hlv)
      | pop =>
        obtain ⟨rfl, h⟩ := h
        cases st with
        | nil => exact h.elim
        | cons v st => exact lv_pop hx hb hd ((am_cz_cat ad v).trans h.1) (ih _ _ _ _ _ _ _ _ _ h.2 hP hS hl hst.2 hlv)
      | dup_x1 =>
        obtain ⟨rfl, h⟩ := h
        cases st with
        | nil => exact h.elim
        | cons v st => cases st with
          | nil => exact h.elim
          | cons u st => exact lv_dup_x1 hx hb hd ((am_cz_cat ad v).trans h.1) ((am_cz_cat ad u).trans h.2.1) (ih _ _ _ _ _ _ _ _ _ h.2.2 hP hS hl ⟨hst.1, hst.2.1, hst.1, hst.2.2⟩ hlv)
      | dup2 =>
        obtain ⟨rfl, h⟩ := h
        cases st with
        | nil => exact h.elim
        | cons v st =>
          rcases h with ⟨h1, h⟩ | ⟨h1, h⟩
          · exact lv_dup2_2 hx hb hd ((am_cz_cat ad v).trans h1) (ih _ _ _ _ _ _ _ _ _ h hP hS hl ⟨hst.1, hst⟩ hlv)
          · cases st with
            | nil => exact h.elim
            | cons u st => exact lv_dup2_11 hx hb hd ((am_cz_cat ad v).trans h1) ((am_cz_cat ad u).trans h.1) (ih _ _ _ _ _ _ _ _ _ h.2 hP hS hl ⟨hst.1, hst.2.1, hst⟩ hlv)
      | if_icmp k off =>
        cases k with
        | eq =>
          obtain ⟨rfl, h⟩ := h
          obtain ⟨x, y, r, rfl, h9⟩ := ap2_e h; have h := h9; clear h9
          obtain ⟨tgt, ht, h⟩ := am_jm h
          have e1 := ij_eq hst.2.1 hst.1
          refine lv_icmp_eq hx hb hd ht (fun q => ?_) (fun q => ?_)
          · rw [if_pos (by first | exact e1.mp q | (intro z; exact q (e1.mpr z)) )] at h
            exact ih _ _ _ _ _ _ _ _ _ h hP hS hl hst.2.2 hlv
          · rw [if_neg (by first | exact fun z => q (e1.mpr z) | exact fun z => (e1.mpr z) q)] at h
            exact ih _ _ _ _ _ _ _ _ _ h hP hS hl hst.2.2 hlv
        | ne =>
          obtain ⟨rfl, h⟩ := h
          obtain ⟨x, y, r, rfl, h9⟩ := ap2_e h; have h := h9; clear h9
          obtain ⟨tgt, ht, h⟩ := am_jm h
          have e1 := not_congr (ij_eq hst.2.1 hst.1)
          refine lv_icmp_ne hx hb hd ht (fun q => ?_) (fun q => ?_)
          · rw [if_pos (by first | exact e1.mp q | (intro z; exact q (e1.mpr z)) )] at h
            exact ih _ _ _ _ _ _ _ _ _ h hP hS hl hst.2.2 hlv
          · rw [if_neg (by first | exact fun z => q (e1.mpr z) | exact fun z => (e1.mpr z) q)] at h
            exact ih _ _ _ _ _ _ _ _ _ h hP hS hl hst.2.2 hlv
        | lt =>
          obtain ⟨rfl, h⟩ := h
          obtain ⟨x, y, r, rfl, h9⟩ := ap2_e h; have h := h9; clear h9
          obtain ⟨tgt, ht, h⟩ := am_jm h
          have e1 := ij_lt hst.2.1 hst.1
          refine lv_icmp_lt hx hb hd ht (fun q => ?_) (fun q => ?_)
          · rw [if_pos (by first | exact e1.mp q | (intro z; exact q (e1.mpr z)) )] at h
            exact ih _ _ _ _ _ _ _ _ _ h hP hS hl hst.2.2 hlv
          · rw [if_neg (by first | exact fun z => q (e1.mpr z) | exact fun z => (e1.mpr z) q)] at h
            exact ih _ _ _ _ _ _ _ _ _ h hP hS hl hst.2.2 hlv
        | ge =>
          obtain ⟨rfl, h⟩ := h
          obtain ⟨x, y, r, rfl, h9⟩ := ap2_e h; have h := h9; clear h9
          obtain ⟨tgt, ht, h⟩ := am_jm h
          have e1 := ij_le hst.1 hst.2.1
          refine lv_icmp_ge hx hb hd ht (fun q => ?_) (fun q => ?_)
          · rw [if_pos (by first | exact e1.mp q | (intro z; exact q (e1.mpr z)) )] at h
            exact ih _ _ _ _ _ _ _ _ _ h hP hS hl hst.2.2 hlv
          · rw [if_neg (by first | exact fun z => q (e1.mpr z) | exact fun z => (e1.mpr z) q)] at h
            exact ih _ _ _ _ _ _ _ _ _ h hP hS hl hst.2.2 hlv
        | gt =>
          obtain ⟨rfl, h⟩ := h
          obtain ⟨x, y, r, rfl, h9⟩ := ap2_e h; have h := h9; clear h9
          obtain ⟨tgt, ht, h⟩ := am_jm h
          have e1 := ij_lt hst.1 hst.2.1
          refine lv_icmp_gt hx hb hd ht (fun q => ?_) (fun q => ?_)
          · rw [if_pos (by first | exact e1.mp q | (intro z; exact q (e1.mpr z)) )] at h
            exact ih _ _ _ _ _ _ _ _ _ h hP hS hl hst.2.2 hlv
          · rw [if_neg (by first | exact fun z => q (e1.mpr z) | exact fun z => (e1.mpr z) q)] at h
            exact ih _ _ _ _ _ _ _ _ _ h hP hS hl hst.2.2 hlv
        | le =>
          obtain ⟨rfl, h⟩ := h
          obtain ⟨x, y, r, rfl, h9⟩ := ap2_e h; have h := h9; clear h9
          obtain ⟨tgt, ht, h⟩ := am_jm h
          have e1 := ij_le hst.2.1 hst.1
          refine lv_icmp_le hx hb hd ht (fun q => ?_) (fun q => ?_)
          · rw [if_pos (by first | exact e1.mp q | (intro z; exact q (e1.mpr z)) )] at h
            exact ih _ _ _ _ _ _ _ _ _ h hP hS hl hst.2.2 hlv
          · rw [if_neg (by first | exact fun z => q (e1.mpr z) | exact fun z => (e1.mpr z) q)] at h
            exact ih _ _ _ _ _ _ _ _ _ h hP hS hl hst.2.2 hlv
      | ifCond k off =>
        cases k with
        | eq =>
          obtain ⟨rfl, h⟩ := h
          obtain ⟨x, r, rfl, h9⟩ := ap1_e h; have h := h9; clear h9
          obtain ⟨tgt, ht, h⟩ := am_jm h
          have e1 := ij_eq hst.1 r_0
          refine lv_if_eq hx hb hd ht (fun q => ?_) (fun q => ?_)
          · rw [if_pos (by first | exact e1.mp q | (intro z; exact q (e1.mpr z)) )] at h
            exact ih _ _ _ _ _ _ _ _ _ h hP hS hl hst.2 hlv
          · rw [if_neg (by first | exact fun z => q (e1.mpr z) | exact fun z => (e1.mpr z) q)] at h
            exact ih _ _ _ _ _ _ _ _ _ h hP hS hl hst.2 hlv
        | ne =>
          obtain ⟨rfl, h⟩ := h
          obtain ⟨x, r, rfl, h9⟩ := ap1_e h; have h := h9; clear h9
          obtain ⟨tgt, ht, h⟩ := am_jm h
          have e1 := not_congr (ij_eq hst.1 r_0)
          refine lv_if_ne hx hb hd ht (fun q => ?_) (fun q => ?_)
          · rw [if_pos (by first | exact e1.mp q | (intro z; exact q (e1.mpr z)) )] at h
            exact ih _ _ _ _ _ _ _ _ _ h hP hS hl hst.2 hlv
          · rw [if_neg (by first | exact fun z => q (e1.mpr z) | exact fun z => (e1.mpr z) q)] at h
            exact ih _ _ _ _ _ _ _ _ _ h hP hS hl hst.2 hlv
        | lt =>
          obtain ⟨rfl, h⟩ := h
          obtain ⟨x, r, rfl, h9⟩ := ap1_e h; have h := h9; clear h9
          obtain ⟨tgt, ht, h⟩ := am_jm h
          have e1 := ij_lt hst.1 r_0
          refine lv_if_lt hx hb hd ht (fun q => ?_) (fun q => ?_)
          · rw [if_pos (by first | exact e1.mp q | (intro z; exact q (e1.mpr z)) )] at h
            exact ih _ _ _ _ _ _ _ _ _ h hP hS hl hst.2 hlv
          · rw [if_neg (by first | exact fun z => q (e1.mpr z) | exact fun z => (e1.mpr z) q)] at h
            exact ih _ _ _ _ _ _ _ _ _ h hP hS hl hst.2 hlv
        | ge =>
          obtain ⟨rfl, h⟩ := h
          obtain ⟨x, r, rfl, h9⟩ := ap1_e h; have h := h9; clear h9
          obtain ⟨tgt, ht, h⟩ := am_jm h
          have e1 := ij_le r_0 hst.1
          refine lv_if_ge hx hb hd ht (fun q => ?_) (fun q => ?_)
          · rw [if_pos (by first | exact e1.mp q | (intro z; exact q (e1.mpr z)) )] at h
            exact ih _ _ _ _ _ _ _ _ _ h hP hS hl hst.2 hlv
          · rw [if_neg (by first | exact fun z => q (e1.mpr z) | exact fun z => (e1.mpr z) q)] at h
            exact ih _ _ _ _ _ _ _ _ _ h hP hS hl hst.2 hlv
        | gt =>
          obtain ⟨rfl, h⟩ := h
          obtain ⟨x, r, rfl, h9⟩ := ap1_e h; have h := h9; clear h9
          obtain ⟨tgt, ht, h⟩ := am_jm h
          have e1 := ij_lt r_0 hst.1
          refine lv_if_gt hx hb hd ht (fun q => ?_) (fun q => ?_)
          · rw [if_pos (by first | exact e1.mp q | (intro z; exact q (e1.mpr z)) )] at h
            exact ih _ _ _ _ _ _ _ _ _ h hP hS hl hst.2 hlv
          · rw [if_neg (by first | exact fun z => q (e1.mpr z) | exact fun z => (e1.mpr z) q)] at h
            exact ih _ _ _ _ _ _ _ _ _ h hP hS hl hst.2 hlv
        | le =>
          obtain ⟨rfl, h⟩ := h
          obtain ⟨x, r, rfl, h9⟩ := ap1_e h; have h := h9; clear h9
          obtain ⟨tgt, ht, h⟩ := am_jm h
          have e1 := ij_le hst.1 r_0
          refine lv_if_le hx hb hd ht (fun q => ?_) (fun q => ?_)
          · rw [if_pos (by first | exact e1.mp q | (intro z; exact q (e1.mpr z)) )] at h
            exact ih _ _ _ _ _ _ _ _ _ h hP hS hl hst.2 hlv
          · rw [if_neg (by first | exact fun z => q (e1.mpr z) | exact fun z => (e1.mpr z) q)] at h
            exact ih _ _ _ _ _ _ _ _ _ h hP hS hl hst.2 hlv
      | goto off =>
        obtain ⟨rfl, h⟩ := h
        obtain ⟨tgt, ht, h⟩ := am_jm h
        exact lv_goto hx hb hd ht (ih _ _ _ _ _ _ _ _ _ h hP hS hl hst hlv)
      | ifnull off =>
        obtain ⟨rfl, h⟩ := h
        obtain ⟨x, r, rfl, h9⟩ := ar1_e h; have h := h9; clear h9
        obtain ⟨tgt, ht, h⟩ := am_jm h
        cases x with
        | none => exact lv_ifnullN hx hb hd ht (ih _ _ _ _ _ _ _ _ _ h hP hS hl hst.2 hlv)
        | some x => exact lv_ifnull hx hb hd (ih _ _ _ _ _ _ _ _ _ h hP hS hl hst.2 hlv)
      | ifnonnull off =>
        obtain ⟨rfl, h⟩ := h
        obtain ⟨x, r, rfl, h9⟩ := ar1_e h; have h := h9; clear h9
        obtain ⟨tgt, ht, h⟩ := am_jm h
        cases x with
        | none => exact lv_ifnonnullN hx hb hd (ih _ _ _ _ _ _ _ _ _ h hP hS hl hst.2 hlv)
        | some x => exact lv_ifnonnull hx hb hd ht (ih _ _ _ _ _ _ _ _ _ h hP hS hl hst.2 hlv)
      | tableswitch df lo hi offs =>
        obtain ⟨x, r, rfl, h9⟩ := ap1_e h; have h := h9; clear h9
        have e1 := ij_r hst.1
        split at h
        · rename_i q
          obtain ⟨tgt, ht, h⟩ := am_jm h
          exact lv_tableOut hx hb hd (by rw [e1]; exact q) ht (ih _ _ _ _ _ _ _ _ _ h hP hS hl hst.2 hlv)
        · rename_i q
          obtain ⟨off, h1, h⟩ := h
          obtain ⟨tgt, ht, h⟩ := am_jm h
          exact lv_tableIn hx hb hd (by rw [e1]; exact fun z => q (Or.inl z)) (by rw [e1]; exact fun z => q (Or.inr z)) (by rw [e1]; exact h1) ht (ih _ _ _ _ _ _ _ _ _ h hP hS hl hst.2 hlv)
      | lookupswitch df ps =>
        obtain ⟨x, r, rfl, h1, h9⟩ := ap1_e h; have h := h9; clear h9
        obtain ⟨tgt, ht, h⟩ := am_jm h
        exact lv_lookup hx hb hd h1 (by rw [ij_r hst.1]) ht (ih _ _ _ _ _ _ _ _ _ h hP hS hl hst.2 hlv)
      | ldc i =>
        obtain ⟨rfl, h⟩ := h
        obtain ⟨v, h1, h2, h⟩ := h
        exact lv_ldc hx hb hown (hts _ (am_tb_in (am_I h1) rfl)) hd (ih _ _ _ _ _ _ _ _ _ h hP hS hl ⟨h2, hst⟩ hlv)
      | ldc_w i =>
        obtain ⟨rfl, h⟩ := h
        obtain ⟨v, h1, h2, h⟩ := h
        exact lv_ldcw hx hb hown (hts _ (am_tb_in (am_I h1) rfl)) hd (ih _ _ _ _ _ _ _ _ _ h hP hS hl ⟨h2, hst⟩ hlv)
      | ldc2_w i =>
        obtain ⟨rfl, h⟩ := h
        obtain ⟨v, h1, h2, h⟩ := h
        exact lv_ldc2 hx hb hown (hts _ (am_tb_in (am_J h1) rfl)) hd (ih _ _ _ _ _ _ _ _ _ h hP hS hl ⟨h2, hst⟩ hlv)
      | getfield i =>
        obtain ⟨rfl, h⟩ := h
        obtain ⟨ci, k, h1, h⟩ := h
        obtain ⟨x, r, rfl, o, rfl, h2, h9⟩ := ar1_e h; have h := h9; clear h9
        obtain ⟨C, T, N, g1, g2, g3⟩ := am_F h1
        obtain ⟨u1, u2, u3, u4, u5, u6⟩ := am_Call g1
        have ho : o < n := am_lt hly h2 (by simp)
        have hat := am_wl_at (cA := cA) (ad := ad) (lay := lay) (σ := σ) ho
        rw [am_ce_o h2] at hat
        have hv : ((List.range (am_nf ci)).map (am_fv ad σ o ci))[k]? = some (am_fv ad σ o ci k) := by
          have : k < am_nf ci := by rw [← u2]; exact g2
          simp [this]
        refine va_get hx hb hts (am_utb u1) hown hK hP o hat g1 k g2 (hts _ (am_tb_in g3 rfl)) (fun _ z => z) hv hd ?_
        unfold am_fv
        split at h
        · rename_i e1; rw [e1]; rw [← ij_t (σ.1 o k)]; exact ih _ _ _ _ _ _ _ _ _ h hP hS hl ⟨i_tr _, hst.2⟩ hlv
        · rename_i e1; rw [e1]; rw [← ij_t (σ.1 o k)]; exact ih _ _ _ _ _ _ _ _ _ h hP hS hl ⟨i_tr _, hst.2⟩ hlv
        · rename_i e1; rw [e1]; rw [← lj_t (σ.2.1 o k)]; exact ih _ _ _ _ _ _ _ _ _ h hP hS hl ⟨l_tr _, hst.2⟩ hlv
        · rename_i e1 e2 e3
          split
          · rename_i z; exact absurd z e1
          · rename_i z; exact absurd z e2
          · rename_i z; exact absurd z e3
          · exact ih _ _ _ _ _ _ _ _ _ h hP hS hl ⟨trivial, hst.2⟩ hlv
      | putfield i =>
        obtain ⟨rfl, h⟩ := h
        obtain ⟨ci, k, h1, h2, h⟩ := h
        split at h
        rotate_left
        · exact h.elim
        rename_i v o r
        obtain ⟨h3, h⟩ := h
        obtain ⟨C, T, N, g1, g2, g3⟩ := am_F h1
        obtain ⟨u1, u2, u3, u4, u5, u6⟩ := am_Call g1
        have ho : o < n := am_lt hly h3 (by simp)
        have hat := am_wl_at (cA := cA) (ad := ad) (lay := lay) (σ := σ) ho
        rw [am_ce_o h3] at hat
        have hk : k < am_nf ci := by rw [← u2]; exact g2
        have hfl : k < ((List.range (am_nf ci)).map (am_fv ad σ o ci)).length := by simpa using hk
        have hty := u6 k g2
        split at h
        · rename_i x e1
          rw [e1] at hty
          have et : am_tyf ci k = .int := by unfold am_tyok at hty; split at hty <;> simp_all
          refine va_put (v := .int (Int32.ofInt x)) hx hb hts (am_utb u1) (am_tyf ci) u3 u4 hown hK hP (hD σ) hS o hat g1 k g2 (hts _ (am_tb_in g3 rfl)) (fun _ z => z) ((u5 k g2).trans h2) (u3 k g2) (by rw [et]; rfl) (by rw [et]; rfl) hfl hd (fun H locs hP1 _ hS1 => ?_)
          have e2 : (am_wl cA ad lay n σ).set o (ad o, .inr (ci, ((List.range (am_nf ci)).map (am_fv ad σ o ci)).set k (.int (Int32.ofInt x)))) = am_wl cA ad lay n (uI σ o k x) := am_wl_set (by rw [am_ce_o h3, am_rg_set (g := am_fv ad (uI σ o k x) o ci) (by simp [am_fv, e1, uI]) (fun j hj => by simp [am_fv, uI, hj])]) (fun i hi => am_ce_uI hi)
          rw [e2] at hP1
          exact ih _ _ _ _ _ _ _ _ _ h hP1 hS1 hl hst.2.2 hlv
        · rename_i x e1
          obtain ⟨h4, h⟩ := h
          rw [e1] at hty
          have et : am_tyf ci k = .boolean := by unfold am_tyok at hty; split at hty <;> simp_all
          refine va_put (v := .int (Int32.ofInt x)) hx hb hts (am_utb u1) (am_tyf ci) u3 u4 hown hK hP (hD σ) hS o hat g1 k g2 (hts _ (am_tb_in g3 rfl)) (fun _ z => z) ((u5 k g2).trans h2) (u3 k g2) (by rw [et]; rcases h4 with rfl | rfl <;> rfl) (by rw [et]; rcases h4 with rfl | rfl <;> rfl) hfl hd (fun H locs hP1 _ hS1 => ?_)
          have e2 : (am_wl cA ad lay n σ).set o (ad o, .inr (ci, ((List.range (am_nf ci)).map (am_fv ad σ o ci)).set k (.int (Int32.ofInt x)))) = am_wl cA ad lay n (uI σ o k x) := am_wl_set (by rw [am_ce_o h3, am_rg_set (g := am_fv ad (uI σ o k x) o ci) (by simp [am_fv, e1, uI]) (fun j hj => by simp [am_fv, uI, hj])]) (fun i hi => am_ce_uI hi)
          rw [e2] at hP1
          exact ih _ _ _ _ _ _ _ _ _ h hP1 hS1 hl hst.2.2 hlv
        · rename_i x e1
          rw [e1] at hty
          have et : am_tyf ci k = .long := by unfold am_tyok at hty; split at hty <;> simp_all
          refine va_put (v := .long (Int64.ofInt x)) hx hb hts (am_utb u1) (am_tyf ci) u3 u4 hown hK hP (hD σ) hS o hat g1 k g2 (hts _ (am_tb_in g3 rfl)) (fun _ z => z) ((u5 k g2).trans h2) (u3 k g2) (by rw [et]; rfl) (by rw [et]; rfl) hfl hd (fun H locs hP1 _ hS1 => ?_)
          have e2 : (am_wl cA ad lay n σ).set o (ad o, .inr (ci, ((List.range (am_nf ci)).map (am_fv ad σ o ci)).set k (.long (Int64.ofInt x)))) = am_wl cA ad lay n (uL σ o k x) := am_wl_set (by rw [am_ce_o h3, am_rg_set (g := am_fv ad (uL σ o k x) o ci) (by simp [am_fv, e1, uL]) (fun j hj => by simp [am_fv, uL, hj])]) (fun i hi => am_ce_uL hi)
          rw [e2] at hP1
          exact ih _ _ _ _ _ _ _ _ _ h hP1 hS1 hl hst.2.2 hlv
        · rename_i x e1
          rw [e1] at hty
          have et : am_isRef (am_tyf ci k) = true := by unfold am_tyok at hty; split at hty <;> simp_all [am_isRef]
          refine va_put (v := va_rf (x.map ad)) hx hb hts (am_utb u1) (am_tyf ci) u3 u4 hown hK hP (hD σ) hS o hat g1 k g2 (hts _ (am_tb_in g3 rfl)) (fun _ z => z) ((u5 k g2).trans h2) (u3 k g2) ?_ ?_ hfl hd (fun H locs hP1 _ hS1 => ?_)
          · revert et; cases am_tyf ci k <;> intro et <;> first | rfl | cases et
          · revert et; cases am_tyf ci k <;> intro et <;> first | (cases x <;> rfl) | cases et
          have e2 : (am_wl cA ad lay n σ).set o (ad o, .inr (ci, ((List.range (am_nf ci)).map (am_fv ad σ o ci)).set k (va_rf (x.map ad)))) = am_wl cA ad lay n (uR σ o k x) := am_wl_set (by rw [am_ce_o h3, am_rg_set (g := am_fv ad (uR σ o k x) o ci) (by simp [am_fv, e1, uR]) (fun j hj => by simp [am_fv, uR, hj])]) (fun i hi => am_ce_uR hi)
          rw [e2] at hP1
          exact ih _ _ _ _ _ _ _ _ _ h hP1 hS1 hl hst.2.2 hlv
        · exact h.elim
      | iaload =>
        obtain ⟨rfl, h⟩ := h
        obtain ⟨i, o, r, N, rfl, h1, h2, h3, h9⟩ := aix_e h; have h := h9; clear h9
        have ho : o < n := am_lt hly h1 (by simp)
        have hat := am_wl_at (cA := cA) (ad := ad) (lay := lay) (σ := σ) ho
        rw [am_ce_a h1] at hat
        obtain ⟨e1, e2⟩ := ij_in h2 h3 hst.1
        refine va_iald hx hb hK hP o 0 hat (am_tys_at cA (by decide)) e1 hd ?_
        rw [e2, ← ij_t (σ.1 o i.toNat)]
        exact ih _ _ _ _ _ _ _ _ _ h hP hS hl ⟨i_tr _, hst.2.2⟩ hlv
      | laload =>
        obtain ⟨rfl, h⟩ := h
        obtain ⟨i, o, r, N, rfl, h1, h2, h3, h9⟩ := aix_e h; have h := h9; clear h9
        have ho : o < n := am_lt hly h1 (by simp)
        have hat := am_wl_at (cA := cA) (ad := ad) (lay := lay) (σ := σ) ho
        rw [am_ce_a h1] at hat
        obtain ⟨e1, e2⟩ := ij_in h2 h3 hst.1
        refine va_lald hx hb hK hP o 3 hat (am_tys_at cA (by decide)) e1 hd ?_
        rw [e2, ← lj_t (σ.2.1 o i.toNat)]
        exact ih _ _ _ _ _ _ _ _ _ h hP hS hl ⟨l_tr _, hst.2.2⟩ hlv
      | baload =>
        obtain ⟨rfl, h⟩ := h
        rcases h with h | h
        · obtain ⟨i, o, r, N, rfl, h1, h2, h3, h9⟩ := aix_e h; have h := h9; clear h9
          have ho : o < n := am_lt hly h1 (by simp)
          have hat := am_wl_at (cA := cA) (ad := ad) (lay := lay) (σ := σ) ho
          rw [am_ce_a h1] at hat
          obtain ⟨e1, e2⟩ := ij_in h2 h3 hst.1
          refine va_bald hx hb hK hP o 1 hat (am_tys_at cA (by decide)) e1 hd ?_
          rw [e2, ← ij_t (σ.1 o i.toNat)]
          exact ih _ _ _ _ _ _ _ _ _ h hP hS hl ⟨i_tr _, hst.2.2⟩ hlv
        · obtain ⟨i, o, r, N, rfl, h1, h2, h3, h9⟩ := aix_e h; have h := h9; clear h9
          have ho : o < n := am_lt hly h1 (by simp)
          have hat := am_wl_at (cA := cA) (ad := ad) (lay := lay) (σ := σ) ho
          rw [am_ce_a h1] at hat
          obtain ⟨e1, e2⟩ := ij_in h2 h3 hst.1
          refine va_zald hx hb hK hP o 2 hat (am_tys_at cA (by decide)) e1 hd ?_
          rw [e2, ← ij_t (σ.1 o i.toNat)]
          exact ih _ _ _ _ _ _ _ _ _ h hP hS hl ⟨i_tr _, hst.2.2⟩ hlv
      | aaload =>
        obtain ⟨rfl, h⟩ := h
        rcases h with h | h
        · obtain ⟨i, o, r, N, rfl, h1, h2, h3, h9⟩ := aix_e h; have h := h9; clear h9
          have ho : o < n := am_lt hly h1 (by simp)
          have hat := am_wl_at (cA := cA) (ad := ad) (lay := lay) (σ := σ) ho
          rw [am_ce_a h1] at hat
          obtain ⟨e1, e2⟩ := ij_in h2 h3 hst.1
          refine va_aldq hx hb hK hP o 4 hat (am_tys_at cA (by decide)) e1 hd ?_
          rw [e2]
          exact ih _ _ _ _ _ _ _ _ _ h hP hS hl ⟨trivial, hst.2.2⟩ hlv
        · obtain ⟨i, o, r, N, rfl, h1, h2, h3, h9⟩ := aix_e h; have h := h9; clear h9
          have ho : o < n := am_lt hly h1 (by simp)
          have hat := am_wl_at (cA := cA) (ad := ad) (lay := lay) (σ := σ) ho
          rw [am_ce_a h1] at hat
          obtain ⟨e1, e2⟩ := ij_in h2 h3 hst.1
          refine va_aldq hx hb hK hP o 5 hat (am_tys_at cA (by decide)) e1 hd ?_
          rw [e2]
          exact ih _ _ _ _ _ _ _ _ _ h hP hS hl ⟨trivial, hst.2.2⟩ hlv
      | iastore =>
        obtain ⟨rfl, h⟩ := h
        obtain ⟨x, r, rfl, h9⟩ := ap1_e h; have h := h9; clear h9
        obtain ⟨i, o, r, N, rfl, h1, h2, h3, h9⟩ := aix_e h; have h := h9; clear h9
        have ho : o < n := am_lt hly h1 (by simp)
        have hat := am_wl_at (cA := cA) (ad := ad) (lay := lay) (σ := σ) ho
        rw [am_ce_a h1] at hat
        obtain ⟨e1, e2⟩ := ij_in h2 h3 hst.2.1
        refine va_iast hx hb hK hP (hD σ) hS o 0 hat (am_tys_at cA (by decide)) e1 hd (fun H locs hP1 _ hS1 => ?_)
        have e3 := am_wl_set (cA := cA) (ad := ad) (lay := lay) (n := n) (σ := σ) (σ2 := uI σ o i.toNat x) (o := o) (am_ce_a h1) (fun j hj => am_ce_uI hj)
        have e4 : am_ar ad (uI σ o i.toNat x) o 0 = .inl (upd (σ.1 o) (Int32.ofInt i).toNatClampNeg (Int32.ofInt x)) := by
          rw [e2]
          show Sum.inl _ = Sum.inl _
          congr 1
          funext j
          by_cases q : j = i.toNat
          · simp [upd, uI, q]
          · simp [upd, uI, q]
        rw [e4] at e3
        rw [e3] at hP1
        exact ih _ _ _ _ _ _ _ _ _ h hP1 hS1 hl hst.2.2.2 hlv
      | lastore =>
        obtain ⟨rfl, h⟩ := h
        obtain ⟨x, r, rfl, h9⟩ := aq1_e h; have h := h9; clear h9
        obtain ⟨i, o, r, N, rfl, h1, h2, h3, h9⟩ := aix_e h; have h := h9; clear h9
        have ho : o < n := am_lt hly h1 (by simp)
        have hat := am_wl_at (cA := cA) (ad := ad) (lay := lay) (σ := σ) ho
        rw [am_ce_a h1] at hat
        obtain ⟨e1, e2⟩ := ij_in h2 h3 hst.2.1
        refine va_last hx hb hK hP (hD σ) hS o 3 hat (am_tys_at cA (by decide)) e1 hd (fun H locs hP1 _ hS1 => ?_)
        have e3 := am_wl_set (cA := cA) (ad := ad) (lay := lay) (n := n) (σ := σ) (σ2 := uL σ o i.toNat x) (o := o) (am_ce_a h1) (fun j hj => am_ce_uL hj)
        have e4 : am_ar ad (uL σ o i.toNat x) o 3 = .inr (.inl (vp_updL (σ.2.1 o) (Int32.ofInt i).toNatClampNeg (Int64.ofInt x))) := by
          rw [e2]
          show Sum.inr (Sum.inl _) = Sum.inr (Sum.inl _)
          congr 2
          funext j
          by_cases q : j = i.toNat
          · simp [vp_updL, uL, q]
          · simp [vp_updL, uL, q]
        rw [e4] at e3
        rw [e3] at hP1
        exact ih _ _ _ _ _ _ _ _ _ h hP1 hS1 hl hst.2.2.2 hlv
      | bastore =>
        obtain ⟨rfl, h⟩ := h
        obtain ⟨x, r, rfl, h9⟩ := ap1_e h; have h := h9; clear h9
        rcases h with h | h
        · obtain ⟨i, o, r, N, rfl, h1, h2, h3, h4, h9⟩ := aix_e h; have h := h9; clear h9
          have ho : o < n := am_lt hly h1 (by simp)
          have hat := am_wl_at (cA := cA) (ad := ad) (lay := lay) (σ := σ) ho
          rw [am_ce_a h1] at hat
          obtain ⟨e1, e2⟩ := ij_in h2 h3 hst.2.1
          refine va_bast hx hb hK hP (hD σ) hS o 1 hat (am_tys_at cA (by decide)) e1 hd (fun H locs hP1 _ hS1 => ?_)
          have e3 := am_wl_set (cA := cA) (ad := ad) (lay := lay) (n := n) (σ := σ) (σ2 := uI σ o i.toNat x) (o := o) (am_ce_a h1) (fun j hj => am_ce_uI hj)
          have e4 : am_ar ad (uI σ o i.toNat x) o 1 = .inl (upd (σ.1 o) (Int32.ofInt i).toNatClampNeg (vp_nar .byte (Int32.ofInt x))) := by
            have e5 : vp_nar .byte (Int32.ofInt x) = Int32.ofInt x := by
              rw [vp_nar_byte, ← Int32.toInt_inj, Int8.toInt_toInt32, Int32.toInt_toInt8, ij_r hst.1]
              exact Int.bmod_eq_of_le (by omega) (by omega)
            rw [e2, e5]
            show Sum.inl _ = Sum.inl _
            congr 1
            funext j
            by_cases q : j = i.toNat
            · simp [upd, uI, q]
            · simp [upd, uI, q]
          rw [e4] at e3
          rw [e3] at hP1
          exact ih _ _ _ _ _ _ _ _ _ h hP1 hS1 hl hst.2.2.2 hlv
        · obtain ⟨i, o, r, N, rfl, h1, h2, h3, h4, h9⟩ := aix_e h; have h := h9; clear h9
          have ho : o < n := am_lt hly h1 (by simp)
          have hat := am_wl_at (cA := cA) (ad := ad) (lay := lay) (σ := σ) ho
          rw [am_ce_a h1] at hat
          obtain ⟨e1, e2⟩ := ij_in h2 h3 hst.2.1
          refine va_zast hx hb hK hP (hD σ) hS o 2 hat (am_tys_at cA (by decide)) e1 hd (fun H locs hP1 _ hS1 => ?_)
          have e3 := am_wl_set (cA := cA) (ad := ad) (lay := lay) (n := n) (σ := σ) (σ2 := uI σ o i.toNat x) (o := o) (am_ce_a h1) (fun j hj => am_ce_uI hj)
          have e4 : am_ar ad (uI σ o i.toNat x) o 2 = .inl (upd (σ.1 o) (Int32.ofInt i).toNatClampNeg (vp_nar .boolean (Int32.ofInt x))) := by
            have e5 : vp_nar .boolean (Int32.ofInt x) = Int32.ofInt x := by
              rcases h4 with rfl | rfl <;> rfl
            rw [e2, e5]
            show Sum.inl _ = Sum.inl _
            congr 1
            funext j
            by_cases q : j = i.toNat
            · simp [upd, uI, q]
            · simp [upd, uI, q]
          rw [e4] at e3
          rw [e3] at hP1
          exact ih _ _ _ _ _ _ _ _ _ h hP1 hS1 hl hst.2.2.2 hlv
      | arraylength =>
        obtain ⟨rfl, h⟩ := h
        obtain ⟨x, r, rfl, o, k, N, rfl, h1, h2, h3, h9⟩ := ar1_e h; have h := h9; clear h9
        have ho : o < n := am_lt hly h1 (by simp; omega)
        have hat := am_wl_at (cA := cA) (ad := ad) (lay := lay) (σ := σ) ho
        rw [am_ce_a h1] at hat
        exact va_alen (v := Int32.ofInt (N : Int)) hx hb hK hP o k hat (am_tys_at cA h2) (Int32.ofInt_eq_ofNat).symm hd (ih _ _ _ _ _ _ _ _ _ h hP hS hl ⟨⟨by omega, by omega⟩, hst.2⟩ hlv)
      | invokevirtual i =>
        obtain ⟨rfl, h⟩ := h
        obtain ⟨mi, h1, h2, h⟩ := h
        obtain ⟨k1, k2⟩ := am_K h1
        obtain ⟨cb, c2, c3, c4, c5, c6, c7, c8, c9, c10⟩ := am_cb (s := s) (args := args) (R := R) hts k1 hR (own := own) (i := i)
        split at h
        rotate_left
        · exact h.elim
        rename_i o rest hrest
        obtain ⟨h3, h4, r1, σ2, h5, h⟩ := h
        have hsp : st = st.take (am_M0 mi).2.2.2.1 ++ vR (some o) :: rest := by rw [← hrest, List.take_append_drop]
        have hlen : (st.take (am_M0 mi).2.2.2.1).reverse.length = (am_M0 mi).2.2.2.1 := by
          rw [List.length_reverse, List.length_take]
          have : (st.drop (am_M0 mi).2.2.2.1).length = st.length - (am_M0 mi).2.2.2.1 := List.length_drop
          rw [hrest] at this
          simp at this
          omega
        have hargs : am_oks (vR (some o) :: (st.take (am_M0 mi).2.2.2.1).reverse) := ⟨trivial, am_oks_rev (am_oks_take hst _)⟩
        have hrs : am_oks rest := by have := am_oks_drop hst (am_M0 mi).2.2.2.1; rw [hrest] at this; exact this.2
        have hM := hE mi σ _ r1 σ2 k1 h5 hargs
        have ho : o < n := am_lt hly h3 (by simp)
        have hat := am_wl_at (cA := cA) (ad := ad) (lay := lay) (σ := σ) ho
        rw [am_ce_o h3] at hat
        obtain ⟨c7a, c7b⟩ := c7 h2
        rw [h2] at c6
        have c6 : (Cond.instanceMethod (am_Y mi)).before args s = true := c6
        cases hq : vwCl[(am_M0 mi).2.2.2.2.2.2]? with
        | none => rw [hq] at c7b; cases c7b
        | some q =>
          rw [hq] at c7b
          have c7c : q.1 = (am_Y mi).cls := Option.some.inj c7b
          have hrecv := va_recv hK hP hq hat
          rw [c7c] at hrecv
          have hpre : PreV s H (am_Y mi).cls (ad o) (va_Pc ((vR (some o) :: (st.take (am_M0 mi).2.2.2.1).reverse).map (am_cz ad)) (am_Bd D cA ad lay n σ)) ((st.take (am_M0 mi).2.2.2.1).reverse.map (am_cz ad)) := ⟨am_blind, hrecv, fun U hU hW => ⟨rfl, by rw [hU]; exact hP, va_K.moved hW.alike hK, hN.warm hW⟩⟩
          have hstk : st.map (am_cz ad) = ((st.take (am_M0 mi).2.2.2.1).reverse.map (am_cz ad)).reverse ++ .ref (ad o) :: rest.map (am_cz ad) := by
            rw [← List.map_reverse, List.reverse_reverse]
            conv => lhs; rw [hsp]
            rw [List.map_append]
            rfl
          have hn' : ((st.take (am_M0 mi).2.2.2.1).reverse.map (am_cz ad)).length = (am_M0 mi).2.2.2.1 := by rw [List.length_map]; exact hlen
          have hcat : ((rest.map (am_cz ad)).map fun v => v.category).sum ≤ 8 := by rw [am_cats_map]; exact h4
          have fin : ∀ (t : State) (H1 : Heap) (locs1 : List Loc), t.heap = H1 → s.vm.Alike t.vm → (∀ v, r1 = some v → am_ok v) → am_Bd D cA ad lay n σ2 t → va_S A s.heap H1 locs1 → W p l e R s m args below meth c0 H1 locs1 cells slots (MQ below (am_Q D cA ad lay n A r σ1) args s cells slots A) (F0 m (pc + 3) ls ((r1.map (am_cz ad)).toList ++ rest.map (am_cz ad))) := by
            intro t H1 locs1 e1 _ hok hbd hS1
            have e2 : (r1.map (am_cz ad)).toList ++ rest.map (am_cz ad) = (r1.toList ++ rest).map (am_cz ad) := by cases r1 <;> simp
            rw [e2]
            refine ih _ _ _ _ _ _ _ _ _ h (by rw [← e1]; exact hbd.1) hS1 hl (am_oks_app ?_ hrs) hlv
            cases r1 with
            | none => exact trivial
            | some v => exact ⟨hok v rfl, trivial⟩
          rcases k2 with k2 | k2
          · exact am_callG (va_runV (As := (st.take (am_M0 mi).2.2.2.1).reverse.map (am_cz ad)) (rest := rest.map (am_cz ad)) (Ts := am_tb) ⟨hx, hb, hml, hown, hts⟩ hM ⟨⟨cb.1, cb.2.1, cb.2.2.1, cb.2.2.2.1, cb.2.2.2.2.1, cb.2.2.2.2.2, c2, c3, c4, c5, hts _ (am_tb_in k2 rfl)⟩, c6, c7a⟩ hpre rfl hn' hl.1 hstk (lv_room hcat) hd hcl) hS fin
          · exact am_callG (va_runVN (As := (st.take (am_M0 mi).2.2.2.1).reverse.map (am_cz ad)) (rest := rest.map (am_cz ad)) (Ts := am_tb) ⟨hx, hb, hml, hown, hts⟩ hM ⟨⟨cb, c2, c3, c4, c5, va_Nw.use rfl (k2 s hN)⟩, c6, c7a⟩ hpre rfl hn' hl.1 hstk (lv_room hcat) hd hcl) hS fin
      | invokestatic i =>
        obtain ⟨rfl, h⟩ := h
        rcases h with h | h | h | h | h
        · obtain ⟨mi, h1, h2, h6, h4, r1, σ2, h5, h⟩ := h
          obtain ⟨k1, k2⟩ := am_K h1
          obtain ⟨cb, c2, c3, c4, c5, c6, c7, c8, c9, c10⟩ := am_cb (s := s) (args := args) (R := R) hts k1 hR (own := own) (i := i)
          have hlen : (st.take (am_M0 mi).2.2.2.1).reverse.length = (am_M0 mi).2.2.2.1 := by
            rw [List.length_reverse, List.length_take]
            omega
          have hargs : am_oks (st.take (am_M0 mi).2.2.2.1).reverse := am_oks_rev (am_oks_take hst _)
          have hrs : am_oks (st.drop (am_M0 mi).2.2.2.1) := am_oks_drop hst _
          have hM := hE mi σ _ r1 σ2 k1 h5 hargs
          rw [h2] at c6
          have c6 : (Cond.static (am_Y mi)).before args s = true := c6
          have hpre : PreS s H (va_Pc ((st.take (am_M0 mi).2.2.2.1).reverse.map (am_cz ad)) (am_Bd D cA ad lay n σ)) ((st.take (am_M0 mi).2.2.2.1).reverse.map (am_cz ad)) := ⟨am_blind, fun U hU hW => ⟨rfl, by rw [hU]; exact hP, va_K.moved hW.alike hK, hN.warm hW⟩⟩
          have hstk : st.map (am_cz ad) = ((st.take (am_M0 mi).2.2.2.1).reverse.map (am_cz ad)).reverse ++ (st.drop (am_M0 mi).2.2.2.1).map (am_cz ad) := by
            rw [← List.map_reverse, List.reverse_reverse, ← List.map_append, List.take_append_drop]
          have hn' : ((st.take (am_M0 mi).2.2.2.1).reverse.map (am_cz ad)).length = (am_M0 mi).2.2.2.1 := by rw [List.length_map]; exact hlen
          have hcat : (((st.drop (am_M0 mi).2.2.2.1).map (am_cz ad)).map fun v => v.category).sum ≤ 8 := by rw [am_cats_map]; exact h4
          have fin : ∀ (t : State) (H1 : Heap) (locs1 : List Loc), t.heap = H1 → s.vm.Alike t.vm → (∀ v, r1 = some v → am_ok v) → am_Bd D cA ad lay n σ2 t → va_S A s.heap H1 locs1 → W p l e R s m args below meth c0 H1 locs1 cells slots (MQ below (am_Q D cA ad lay n A r σ1) args s cells slots A) (F0 m (pc + 3) ls ((r1.map (am_cz ad)).toList ++ (st.drop (am_M0 mi).2.2.2.1).map (am_cz ad))) := by
            intro t H1 locs1 e1 _ hok hbd hS1
            have e2 : (r1.map (am_cz ad)).toList ++ (st.drop (am_M0 mi).2.2.2.1).map (am_cz ad) = (r1.toList ++ st.drop (am_M0 mi).2.2.2.1).map (am_cz ad) := by cases r1 <;> simp
            rw [e2]
            refine ih _ _ _ _ _ _ _ _ _ h (by rw [← e1]; exact hbd.1) hS1 hl (am_oks_app ?_ hrs) hlv
            cases r1 with
            | none => exact trivial
            | some v => exact ⟨hok v rfl, trivial⟩
          rcases k2 with k2 | k2
          · exact am_callG (va_runS (As := (st.take (am_M0 mi).2.2.2.1).reverse.map (am_cz ad)) (rest := (st.drop (am_M0 mi).2.2.2.1).map (am_cz ad)) (Ts := am_tb) ⟨hx, hb, hml, hown, hts⟩ hM ⟨⟨cb.1, cb.2.1, cb.2.2.1, cb.2.2.2.1, cb.2.2.2.2.1, cb.2.2.2.2.2, c2, c3, c4, c5, hts _ (am_tb_in k2 rfl)⟩, c6⟩ hpre rfl hn' hl.1 hstk (lv_room hcat) hd hcl) hS fin
          · exact am_callG (va_runSN (As := (st.take (am_M0 mi).2.2.2.1).reverse.map (am_cz ad)) (rest := (st.drop (am_M0 mi).2.2.2.1).map (am_cz ad)) (Ts := am_tb) ⟨hx, hb, hml, hown, hts⟩ hM ⟨⟨cb, c2, c3, c4, c5, va_Nw.use rfl (k2 s hN)⟩, c6, trivial⟩ hpre rfl hn' hl.1 hstk (lv_room hcat) hd hcl) hS fin
        · obtain ⟨h1, h⟩ := h
          obtain ⟨x, y, r, rfl, h2, h9⟩ := ap2_e h; have h := h9; clear h9
          have k2 := am_Bm h1 (by decide)
          have h3 := ih _ _ _ _ _ _ _ _ _ h hP hS hl ⟨by split; exact hst.1; exact hst.2.1, hst.2.2⟩ hlv
          refine va_mmax hx hb (by rw [hml]; exact hl.1.symm) hown (hts _ (am_tb_in k2 rfl)) (hts _ (am_tb_in am_b1.1 rfl)) (hts _ (am_tb_in am_bi rfl)) (hts _ (am_tb_in am_b1.2 rfl)) (by omega) ?_ hcl.1 hcl.2 hd ?_
          · rw [am_cats_map]; omega
          · by_cases q : x < y
            · rw [if_pos ((ij_lt hst.2.1 hst.1).mpr q)]; rw [if_pos q] at h3; exact h3
            · rw [if_neg (fun z => q ((ij_lt hst.2.1 hst.1).mp z))]; rw [if_neg q] at h3; exact h3
        · obtain ⟨h1, h⟩ := h
          obtain ⟨x, y, r, rfl, h2, h9⟩ := ap2_e h; have h := h9; clear h9
          have k2 := am_Bm h1 (by decide)
          have h3 := ih _ _ _ _ _ _ _ _ _ h hP hS hl ⟨by split; exact hst.1; exact hst.2.1, hst.2.2⟩ hlv
          refine va_mmin hx hb (by rw [hml]; exact hl.1.symm) hown (hts _ (am_tb_in k2 rfl)) (hts _ (am_tb_in am_b2.1 rfl)) (hts _ (am_tb_in am_bi rfl)) (hts _ (am_tb_in am_b2.2 rfl)) (by omega) ?_ hcl.1 hcl.2 hd ?_
          · rw [am_cats_map]; omega
          · by_cases q : y < x
            · rw [if_pos ((ij_lt hst.1 hst.2.1).mpr q)]; rw [if_pos q] at h3; exact h3
            · rw [if_neg (fun z => q ((ij_lt hst.1 hst.2.1).mp z))]; rw [if_neg q] at h3; exact h3
        · obtain ⟨h1, h⟩ := h
          obtain ⟨x, y, r, rfl, h2, h9⟩ := aq2_e h; have h := h9; clear h9
          have k2 := am_Bm h1 (by decide)
          have h3 := ih _ _ _ _ _ _ _ _ _ h hP hS hl ⟨by split; exact hst.2.1; exact hst.1, hst.2.2⟩ hlv
          refine va_mmax_long hx hb (by rw [hml]; exact hl.1.symm) hown (hts _ (am_tb_in k2 rfl)) (hts _ (am_tb_in am_b3.1 rfl)) (hts _ (am_tb_in am_bi rfl)) (hts _ (am_tb_in am_b3.2 rfl)) (by omega) ?_ hcl.1 hcl.2 hd ?_
          · rw [am_cats_map]; omega
          · by_cases q : y < x
            · rw [if_pos ((lj_lt hst.1 hst.2.1).mpr q)]; rw [if_pos q] at h3; exact h3
            · rw [if_neg (fun z => q ((lj_lt hst.1 hst.2.1).mp z))]; rw [if_neg q] at h3; exact h3
        · obtain ⟨h1, h⟩ := h
          obtain ⟨x, r, rfl, h2, h9⟩ := aq1_e h; have h := h9; clear h9
          have k2 := am_Bm h1 (by decide)
          have h3 := ih _ _ _ _ _ _ _ _ _ h hP hS hl ⟨by split; exact hst.1; exact wL_r _, hst.2⟩ hlv
          refine va_mabs_long hx hb (by rw [hml]; exact hl.1.symm) hown (hts _ (am_tb_in k2 rfl)) (hts _ (am_tb_in am_b4.1 rfl)) (hts _ (am_tb_in am_bi rfl)) (hts _ (am_tb_in am_b4.2 rfl)) (by omega) ?_ hcl.1 hcl.2 hd ?_
          · rw [am_cats_map]; omega
          · have e0 : (0 : Int64) < Int64.ofInt x ↔ 0 < x := lj_lt (x := 0) ⟨by decide, by decide⟩ hst.1
            by_cases q : 0 < x
            · rw [if_pos (e0.mpr q)]; rw [if_pos q] at h3; exact h3
            · rw [if_neg (fun z => q (e0.mp z)), ← Int64.ofInt_neg, ← lj_w]; rw [if_neg q] at h3; exact h3
      | ireturn =>
        obtain ⟨rfl, h⟩ := h
        obtain ⟨x, r, rfl, rfl, h1, h2, rfl⟩ := ap1_e h
        subst h2
        rcases h1 with rfl | ⟨rfl, h1⟩
        · have hr : meth.sig.returnType = some .int := by revert hrt; unfold am_rtok; split <;> simp_all
          exact W.iret hx hb hr (fun t ht hW => ⟨⟨rfl, fun v hv => by cases hv; exact hst.1, by rw [ht]; exact hP, va_K.moved hW.alike hK, hN.warm hW⟩, hS.F ht⟩) hS.2.2 hd hlocks
        · have hr : meth.sig.returnType = some .boolean := by revert hrt; unfold am_rtok; split <;> simp_all
          exact W.zret hx hb hr (by rcases h1 with rfl | rfl <;> rfl) (fun t ht hW => ⟨⟨rfl, fun v hv => by cases hv; exact hst.1, by rw [ht]; exact hP, va_K.moved hW.alike hK, hN.warm hW⟩, hS.F ht⟩) hS.2.2 hd hlocks
      | lreturn =>
        obtain ⟨rfl, h⟩ := h
        obtain ⟨x, r, rfl, rfl, rfl, h2, rfl⟩ := aq1_e h
        subst h2
        have hr : meth.sig.returnType = some .long := by revert hrt; unfold am_rtok; split <;> simp_all
        exact W.lret hx hb hr (fun t ht hW => ⟨⟨rfl, fun v hv => by cases hv; exact hst.1, by rw [ht]; exact hP, va_K.moved hW.alike hK, hN.warm hW⟩, hS.F ht⟩) hS.2.2 hd hlocks
      | areturn =>
        obtain ⟨rfl, h⟩ := h
        obtain ⟨x, r, rfl, rfl, rfl, h2, rfl⟩ := ar1_e h
        subst h2
        have hr : ∃ t, meth.sig.returnType = some t ∧ ((∃ n, t = .object n) ∨ ∃ u, t = .array u) := by
          revert hrt
          cases hq : meth.sig.returnType with
          | none => simp [am_rtok]
          | some t => cases t <;> simp [am_rtok, am_isRef]
        obtain ⟨t, hr, ht⟩ := hr
        exact W.aret hx hb hr ht (by cases x with | none => exact Or.inl rfl | some x => exact Or.inr ⟨_, rfl⟩) (fun t ht hW => ⟨⟨rfl, fun v hv => by cases hv; exact trivial, by rw [ht]; exact hP, va_K.moved hW.alike hK, hN.warm hW⟩, hS.F ht⟩) hS.2.2 hd hlocks
      | return_ =>
        obtain ⟨rfl, h⟩ := h
        obtain ⟨rfl, rfl, h2, rfl⟩ := h
        subst h2
        have hr : meth.sig.returnType = none := by revert hrt; unfold am_rtok; split <;> simp_all
        exact W.vret hx hb hr (fun t ht hW => ⟨⟨rfl, fun v hv => (by cases hv), by rw [ht]; exact hP, va_K.moved hW.alike hK, hN.warm hW⟩, hS.F ht⟩) hS.2.2 hd hlocks
      | _ =>
        exact h.elim
end TIEG
