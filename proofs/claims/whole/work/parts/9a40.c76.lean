section
/-! THE LAW: a call of it -/
variable {p : Program} {l : Launch} {e : Env} {s : State} {m : MethodId} {args : Array Value} {below : List Frame} {meth : Method} {c0 : Code} {D : va_G} {cA : Nat → ClassId} {ad : Nat → Nat} {lay : Nat → Nat ⊕ (Nat × Nat)} {n : Nat} {A A0 : Nat → Prop} {R : Room}
theorem lw_call {own : String} {cc : ByteArray} {nL i mi d pc cells slots : Nat} {σ σ1 : am_HS} {as : List am_V} {z : Int} {w2 : va_W} {H0 H : Heap} {locs : List Loc} {ls : Array Slot} {rest : List Value} {Q : State → Prop}
    (hx : p.tables.exec = Jvm.exec) (hb : c0.code = cc) (hml : c0.maxLocals = nL) (hown : s.vm.findClass own = some m.cls) (hts : ∀ w ∈ am_tb, w.before args s = true)
    (hK : va_K D vwCl (am_tys cA) s) (hN : am_N s) (hD : ∀ σ, va_D A (am_wl cA ad lay n σ)) (hly : am_lyok lay n) (hR : d + 1 ≤ R.frames ∧ 40 * (d + 1) ≤ R.locals) (hmi : mi < am_ML.length) (hsv : (am_M0 mi).2.2.2.2.2.1 = false) (h0 : lay 0 = .inl (am_M0 mi).2.2.2.2.2.2)
    (hE : am_Ev am_T0 am_M0 lay d mi σ (vR (some 0) :: as) (some (vI z)) σ1) (hok : am_oks as) (hlen : as.length = (am_M0 mi).2.2.2.1)
    (hlk : (Cond.methodLink own i (am_Y mi)).before args s = true) (hd : decode cc pc = .ok (.invokevirtual i, 3)) (hls : ls.size = nL) (hcat : (rest.map fun v => v.category).sum ≤ 8) (hcl : cells ≤ R.cells ∧ slots ≤ R.slots)
    (hP : va_P D vwCl (am_wl cA ad lay n σ) H) (hP2 : va_P D vwCl w2 H) (hw2 : ∀ (k : Nat) (q : Nat × va_E), w2[k]? = some q → ¬ A q.1) (hS : va_S A0 H0 H locs) (hA : ∀ q, A q → A0 q)
    (kk : ∀ (H1 : Heap) (locs1 : List Loc), rI z → va_P D vwCl (am_wl cA ad lay n σ1) H1 → va_P D vwCl w2 H1 → H.size ≤ H1.size → va_S A0 H0 H1 locs1 → W p l e R s m args below meth c0 H1 locs1 cells slots Q (F0 m (pc + 3) ls (.int (Int32.ofInt z) :: rest))) :
    W p l e R s m args below meth c0 H locs cells slots Q (F0 m pc ls ((as.map (am_cz ad)).reverse ++ .ref (ad 0) :: rest)) := by
  obtain ⟨cb, c2, c3, c4, c5, c6, c7, c8, c9, c10⟩ := am_cb (s := s) (args := args) (R := R) hts hmi hR (own := own) (i := i)
  obtain ⟨c7a, c7b⟩ := c7 hsv
  rw [hsv] at c6
  have c6 : (Cond.instanceMethod (am_Y mi)).before args s = true := c6
  have hM := am_sound l D cA ad lay n A hD hly d mi σ _ _ σ1 hmi hE ⟨trivial, hok⟩
  have ho : 0 < n := am_lt hly h0 (by simp)
  have hat := am_wl_at (cA := cA) (ad := ad) (lay := lay) (σ := σ) ho
  rw [am_ce_o h0] at hat
  cases hq : vwCl[(am_M0 mi).2.2.2.2.2.2]? with
  | none => rw [hq] at c7b; cases c7b
  | some q =>
    rw [hq] at c7b
    have c7c : q.1 = (am_Y mi).cls := Option.some.inj c7b
    have hrecv := va_recv hK hP hq hat
    rw [c7c] at hrecv
    have hpre : PreV s H (am_Y mi).cls (ad 0) (va_Pc ((vR (some 0) :: as).map (am_cz ad)) (am_Bd D cA ad lay n σ)) (as.map (am_cz ad)) := ⟨am_blind, hrecv, fun U hU hW => ⟨rfl, by rw [hU]; exact hP, va_K.moved hW.alike hK, hN.warm hW⟩⟩
    have hr := va_runV (e := e) (below := below) (meth := meth) (R := R) (locs := locs) (cells := cells) (slots := slots) (mc := 0) (ms := 0) (g := F0 m pc ls ((as.map (am_cz ad)).reverse ++ .ref (ad 0) :: rest)) (As := as.map (am_cz ad)) (rest := rest) (Ts := am_tb) ⟨hx, hb, hml, hown, hts⟩ hM ⟨⟨cb.1, cb.2.1, cb.2.2.1, cb.2.2.2.1, cb.2.2.2.2.1, cb.2.2.2.2.2, c2, c3, c4, c5, hlk⟩, c6, c7a⟩ hpre rfl (by rw [List.length_map]; exact hlen) hls rfl (lv_room hcat) hd ⟨hcl.1, hcl.2⟩
    intro T hT X
    obtain ⟨v, st₀, t, T', L, h0', X', hL, e1, e2, ⟨⟨hv, hokv, hbd⟩, hz, hk⟩, st⟩ := hr T hT X
    cases hv
    rw [h0'] at hz hk
    obtain ⟨t2, a1, b1⟩ := kk T'.heap (locs ++ L) (hokv _ rfl) (by rw [e1]; exact hbd.1) (hP2.kept (fun k q hkq => by rw [e1]; exact hk q.1 (hP2 k q hkq).lt (hw2 k q hkq))) (by rw [e1]; exact hz)
      ⟨Nat.le_trans hS.1 (by rw [e1]; exact hz), fun q h1 h2 => by rw [e1, hk q (Nat.lt_of_lt_of_le h1 hS.1) (fun y => h2 (hA q y))]; exact hS.2.1 q h1 h2, fun q hq => by
        rcases List.mem_append.mp hq with h | h
        · exact hS.2.2 q h
        · exact hA _ (hL q h)⟩ T' rfl X'
    exact ⟨t2, st t2 a1, b1⟩
end
