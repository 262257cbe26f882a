section
/-! MAKING OBJECTS: a number put, a row of cells, a run to the end -/
variable {p : Program} {l : Launch} {e : Env} {s : State} {m : MethodId} {args : Array Value} {below : List Frame} {meth : Method} {c0 : Code} {D : va_G} {cA : Nat → ClassId} {ad : Nat → Nat} {lay : Nat → Nat ⊕ (Nat × Nat)} {A : Nat → Prop} {R : Room}
theorem st_putI {cc : ByteArray} {c i ci k o n nL pc cells slots : Nat} {v : Int} {σ : am_HS} {H0 H : Heap} {locs : List Loc} {ls : Array Slot} {rest : List Value} {Q : State → Prop} (C : mk_C p s m args meth c0 D cA c cc nL) (G : mk_G D cA A H0 lay n σ ad H locs) (h1 : am_T0.1 c i = some (ci, k)) (e1 : am_fty ci k = 0) (hf : am_ffin ci k = false) (ho : o < n) (h3 : lay o = .inl ci) (hd : decode cc pc = .ok (.putfield i, 3))
    (kk : ∀ (H1 : Heap) (locs1 : List Loc), mk_G D cA A H0 lay n (uI σ o k v) ad H1 locs1 → W p l e R s m args below meth c0 H1 locs1 cells slots Q (F0 m (pc + 3) ls rest)) : W p l e R s m args below meth c0 H locs cells slots Q (F0 m pc ls (.int (Int32.ofInt v) :: .ref (ad o) :: rest)) := by
  obtain ⟨hx, hb, hml, hlocks, hown, hts, hin, hret, hK, hN⟩ := C
  obtain ⟨hP, hD, hS⟩ := G
  obtain ⟨C, T, N, g1, g2, g3⟩ := am_F h1
  obtain ⟨u1, u2, u3, u4, u5, u6⟩ := am_Call g1
  have hat := am_wl_at (cA := cA) (ad := ad) (lay := lay) (σ := σ) ho
  rw [am_ce_o h3] at hat
  have hk : k < am_nf ci := by rw [← u2]; exact g2
  have hfl : k < ((List.range (am_nf ci)).map (am_fv ad σ o ci)).length := by simpa using hk
  have hty := u6 k g2
  rw [e1] at hty
  have et : am_tyf ci k = .int := by unfold am_tyok at hty; split at hty <;> simp_all
  have n1 : narrow (am_tyf ci k) (.int (Int32.ofInt v)) = .int (Int32.ofInt v) := by rw [et]; rfl
  have n2 : fits (am_tyf ci k) (.int (Int32.ofInt v)) = true := by rw [et]; rfl
  have e2 : (am_wl cA ad lay n σ).set o (ad o, .inr (ci, ((List.range (am_nf ci)).map (am_fv ad σ o ci)).set k (.int (Int32.ofInt v)))) = am_wl cA ad lay n (uI σ o k v) := am_wl_set (by rw [am_ce_o h3, am_rg_set (g := am_fv ad (uI σ o k v) o ci) (by simp [am_fv, e1, uI]) (fun j hj => by simp [am_fv, uI, hj])]) (fun i hi => am_ce_uI hi)
  refine va_put (v := .int (Int32.ofInt v)) hx hb hts (am_utb u1) (am_tyf ci) u3 u4 hown hK hP hD hS o hat g1 k g2 (hts _ (am_tb_in g3 rfl)) (fun _ z => z) ((u5 k g2).trans hf) (u3 k g2) n1 n2 hfl hd (fun H1 locs1 hP1 hD1 hS1 => ?_)
  rw [e2] at hP1 hD1
  exact kk H1 locs1 ⟨hP1, hD1, hS1⟩
/-- from here on by the machine without words, to the end -/
theorem st_tie {cc : ByteArray} {c nL d n pc cells slots a : Nat} {σ σ1 : am_HS} {H : Heap} {locs : List Loc} {ls : Array Slot} {lv : am_LV} (C : mk_C p s m args meth c0 D cA c cc nL) (G : mk_G D cA A s.heap lay n σ ad H locs) (a0 : ad 0 = a) (hly : am_lyok lay n) (hR : d + 1 ≤ R.frames ∧ 40 * (d + 1) ≤ R.locals) (hl : lv_has ls nL (am_kn ad lv)) (hok : am_okl lv) (hcl : cells ≤ R.cells ∧ slots ≤ R.slots) (hg : am_Go lay d c nL 0 cc pc lv [] σ (qV fun s => s = σ1)) : W p l e R s m args below meth c0 H locs cells slots (MQ below (va_Qv (fun ad : Nat → Nat => ad 0 = a) (cn_B D cA A lay n σ1) A) args s cells slots A) (F0 m pc ls []) := by
  obtain ⟨hx, hb, hml, hlocks, hown, hts, hin, hret, hK, hN⟩ := C
  obtain ⟨hP, hD, hS⟩ := G
  obtain ⟨r, σ2, ⟨er, es⟩, f, hg⟩ := hg
  have es : σ2 = σ1 := es
  rw [er, es] at hg
  have hDa : ∀ σ, va_D A (am_wl cA ad lay n σ) := fun σ => va_D_any hD σ
  have W1 := am_tieG (own := "") (e := e) (below := below) (d := d) hcl hx hb hml hlocks hown hts (by rw [hret]; rfl) hK hDa hly hR (am_sound l D cA ad lay n A hDa hly d) hN.1 f pc lv [] σ none σ1 H locs ls hg hP hS hl trivial hok
  intro T hT X
  obtain ⟨t, g, o, q1, q2, ⟨⟨q3, q4, q5⟩, q6⟩, q7⟩ := W1 T hT X
  exact ⟨t, g, o, q1, q2, ⟨⟨ad, q3, a0, q5.1, hDa σ1⟩, q6⟩, q7⟩
/-- filling a row -/
theorem cn_fill {D : Nat} (hD : 1 ≤ D) (σ : am_HS) (o n : Nat) (ho : lay o = .inr (0, n)) (hn : n < 2147483647) (v : Int) : am_Do lay D mJ7_fill_53178 σ [vR (some o), vI v] (qV fun s => s = fillI σ o n v) := by
  obtain ⟨d, rfl⟩ : ∃ d, D = d + 1 := ⟨D - 1, by omega⟩
  refine am_enter rfl rfl (Nat.le_of_ble_eq_true rfl) ?_
  have lp : ∀ (m k : Nat), k + m = n → am_Go lay d 9 4 0 cJ7_fill_53178 5 [some (vR (some o)), some (vI v), some (vI (k : Int)), some (vI (n : Int))] [] (fillI σ o k v) (qV fun s => s = fillI σ o n v) := by
    intro m
    induction m with
    | zero =>
      intro k hk
      have e : k = n := by omega
      subst e
      refine g_iload_n dJ7_fill_53178_5 rfl ?_
      refine g_iload_n dJ7_fill_53178_6 rfl ?_
      refine g_icmp_ge (tgt := 20) dJ7_fill_53178_7 (by decide) (fun c7 => ?_) (fun c7 => ?_)
      · exact g_return dJ7_fill_53178_20 rfl ⟨rfl, rfl⟩
      · exfalso; omega
    | succ m ih =>
      intro k hk
      refine g_iload_n dJ7_fill_53178_5 rfl ?_
      refine g_iload_n dJ7_fill_53178_6 rfl ?_
      refine g_icmp_ge (tgt := 20) dJ7_fill_53178_7 (by decide) (fun c7 => ?_) (fun c7 => ?_)
      · exfalso; omega
      · refine g_aload_n dJ7_fill_53178_10 rfl ?_
        refine g_iload_n dJ7_fill_53178_11 rfl ?_
        refine g_iload_n dJ7_fill_53178_12 rfl ?_
        refine g_iastN (k) dJ7_fill_53178_13 ho (by omega) (by omega) ?_
        refine g_iinc dJ7_fill_53178_14 (by decide) rfl ⟨by omega, by omega⟩ (show (k : Int) + 1 = ((k + 1 : Nat) : Int) from by omega) rfl ?_
        refine g_goto (tgt := 5) dJ7_fill_53178_17 (by decide) ?_
        rw [fillI_s]
        exact ih (k + 1) (by omega)
  refine g_iconst dJ7_fill_53178_0 ⟨by decide, by decide⟩ ?_
  refine g_istore_n dJ7_fill_53178_1 (by decide) rfl ?_
  refine g_aload_n dJ7_fill_53178_2 rfl ?_
  refine g_alen dJ7_fill_53178_3 ho ⟨by decide, by omega⟩ ?_
  refine g_istore_n dJ7_fill_53178_4 (by decide) rfl ?_
  have := lp n 0 (by omega)
  rw [fillI_0] at this
  exact this
theorem va_RA_uniq {U : State} {a b : ClassId} {C : String} (h1 : va_RA U a (.object C)) (h2 : va_RA U b (.object C)) : a = b := by
  obtain ⟨_, _, _, _, _, f1⟩ := h1
  obtain ⟨_, _, _, _, _, f2⟩ := h2
  exact Option.some.inj (f1.symm.trans f2)
/-- a row of cells, put into a field of the object -/
theorem st_arq {cc : ByteArray} {C2 : String} {c i ci idx k kd N n pc nL cells slots a : Nat} {σ σ' : am_HS} {H0 H : Heap} {locs : List Loc} {ls : Array Slot} {v : Int} {x : Int32} {Q : State → Prop} (C : mk_C p s m args meth c0 D cA c cc nL) (hA : ∀ q, H0.size ≤ q → A q) (hl : lv_has ls nL [(0, .ref a)]) (l0 : lay 0 = .inl ci) (G : mk_G D cA A H0 lay n σ ad H locs) (a0 : ad 0 = a) (h0 : 0 < n) (w1 : Cond.classLink (am_own c) idx C2 ∈ lw_tbl) (hao : va_AO C2 s) (hkd : (kd = 4 ∨ kd = 5) ∧ am_aty kd = .object C2) (hlay : lay n = .inr (kd, N)) (hn : ¬ x < 0) (hN : x.toNatClampNeg = N) (hbytes : N * 4 ≤ 536870912) (hcells : cells + 1 ≤ R.cells) (hslots : slots + N ≤ R.slots) (hrf : rfB σ n) (hz3 : ∀ j, σ.2.2 n j = none) (hσ : uR σ 0 k (some n) = σ') (h1 : am_T0.1 c i = some (ci, k)) (e1 : am_fty ci k = 3) (hdc : ∀ q, vwCl[ci]? = some q → (q.2.1 k).1 = am_own c) (d0 : decode cc pc = .ok (.aload_n 0, 1)) (hx0 : (Int8.ofInt v).toInt32 = x) (dp : decode cc (pc + 1) = .ok (.bipush v, 2)) (d1 : decode cc (pc + 1 + 2) = .ok (.anewarray idx, 3)) (d2 : decode cc (pc + 1 + 2 + 3) = .ok (.putfield i, 3))
    (kk : ∀ (ad' : Nat → Nat) (H1 : Heap) (locs1 : List Loc), ad' 0 = a → mk_G D cA A H0 lay (n + 1) σ' ad' H1 locs1 → W p l e R s m args below meth c0 H1 locs1 (cells + 1) (slots + N) Q (F0 m (pc + 9) ls [])) : W p l e R s m args below meth c0 H locs cells slots Q (F0 m pc ls []) := by
  obtain ⟨hx, hb, hml, hlocks, hown, hts, hin, hret, hK, hN'⟩ := C
  obtain ⟨hP, hD, hS⟩ := G
  refine lv_aload_n hx hb d0 rfl (lv_at hl 0 rfl) ?_
  refine lv_bipush (v := x) hx hb dp hx0 ?_
  refine va_newq hx hb hown (hts _ (am_tb_in w1 rfl)) hao hK hP hD hS hA hn hN hbytes hcells hslots d1 (fun q cA' H1 hK' hP' hD' hS' => ?_)
  have ec : cA' = cA kd := by
    have r1 := (hK'.2 6 (cA', .object C2) rfl).2
    have r2 := (hK.2 kd (cA kd, am_aty kd) (am_tys_at cA (by rcases hkd.1 with h | h <;> omega))).2
    rw [hkd.2] at r2
    exact va_RA_uniq r1 r2
  have har : am_ar (adU ad n q) σ n kd = .inr (.inr (.inr (.inr (fun _ => none)))) := by
    have ef : (fun j => (σ.2.2 n j).map (adU ad n q)) = fun _ => none := funext fun j => by rw [hz3 j]; rfl
    rcases hkd.1 with h | h
    · rw [h]
      show (Sum.inr (Sum.inr (Sum.inr (Sum.inr (fun j => (σ.2.2 n j).map (adU ad n q))))) : ((Nat → Int32) ⊕ (Nat → Int64) ⊕ (Nat → UInt32) ⊕ (Nat → UInt64) ⊕ (Nat → Option Nat))) = _
      rw [ef]
    · rw [h]
      show (Sum.inr (Sum.inr (Sum.inr (Sum.inr (fun j => (σ.2.2 n j).map (adU ad n q))))) : ((Nat → Int32) ⊕ (Nat → Int64) ⊕ (Nat → UInt32) ⊕ (Nat → UInt64) ⊕ (Nat → Option Nat))) = _
      rw [ef]
  have e2 : am_wl cA (adU ad n q) lay (n + 1) σ = am_wl cA ad lay n σ ++ [(q, .inl (cA', N, .inr (.inr (.inr (.inr (fun _ => none))))))] := by
    rw [am_wl_adU hrf, am_ce_a hlay, har, ec]
  rw [← e2] at hP' hD'
  have b0 : adU ad n q 0 = a := (if_neg (by omega)).trans a0
  have b1 : adU ad n q n = q := if_pos rfl
  have key : W p l e R s m args below meth c0 H1 locs (cells + 1) (slots + N) Q (F0 m (pc + 1 + 2 + 3) ls [.ref (adU ad n q n), .ref (adU ad n q 0)]) := mk_putR (c := c) (i := i) (ci := ci) (k := k) (o := 0) (x := n) hx hb hown hts hK hP' hD' hS' h1 e1 (Or.inr ⟨hin, hdc⟩) (by omega) l0 d2 (fun H2 locs2 hP2 hD2 hS2 => by
    rw [hσ] at hP2 hD2
    exact kk (adU ad n q) H2 locs2 b0 ⟨hP2, hD2, hS2⟩)
  rw [b1, b0] at key
  exact key
end
