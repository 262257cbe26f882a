section
/-! THE REFERENCE'S CELLS, made one by one -/
variable {p : Program} {l : Launch} {e : Env} {s : State} {m : MethodId} {args : Array Value} {below : List Frame} {meth : Method} {c0 : Code} {D : va_G} {cA : Nat → ClassId} {ad : Nat → Nat} {A : Nat → Prop} {R : Room}
/-- the new reference, j cells behind it -/
def mS (j : Nat) : am_HS := (fun _ _ => 0, fun _ _ => 0, fun o k => match mH o k with | some x => if x ≤ j then some x else none | none => none)
theorem mH_inj : ∀ a, a < 67 → ∀ b, b < 67 → mH 0 a ≠ none → mH 0 a = mH 0 b → a = b := by decide +kernel
theorem mH_lt {o k x : Nat} (h : mH o k = some x) : o = 0 ∧ k < 67 := by
  unfold mH at h
  by_cases z : o = 0
  · refine ⟨z, ?_⟩
    rw [if_pos z] at h
    rcases Nat.lt_or_ge k 67 with q | q
    · exact q
    · rw [List.getD_eq_getElem?_getD, List.getElem?_eq_none (by simpa using q)] at h
      cases h
  · rw [if_neg z] at h
    cases h
theorem mS_s {j k : Nat} (h : mH 0 k = some (j + 1)) : uR (mS j) 0 k (some (j + 1)) = mS (j + 1) := by
  unfold uR mS
  refine Prod.ext rfl (Prod.ext rfl (funext fun o' => funext fun k' => ?_))
  show (if o' = 0 ∧ k' = k then some (j + 1) else match mH o' k' with | some x => if x ≤ j then some x else none | none => none) = match mH o' k' with | some x => if x ≤ j + 1 then some x else none | none => none
  by_cases z : o' = 0 ∧ k' = k
  · rw [if_pos z, z.1, z.2, h]
    show some (j + 1) = if j + 1 ≤ j + 1 then some (j + 1) else none
    rw [if_pos (Nat.le_refl _)]
  · rw [if_neg z]
    cases hz : mH o' k' with
    | none => rfl
    | some x =>
      show (if x ≤ j then some x else none) = if x ≤ j + 1 then some x else none
      have hx : x ≠ j + 1 := fun q => by
        rw [q] at hz
        have l1 := mH_lt hz
        rw [l1.1] at hz
        exact z ⟨l1.1, mH_inj k' l1.2 k (mH_lt h).2 (by rw [hz]; exact fun y => nomatch y) (hz.trans h.symm)⟩
      by_cases y : x ≤ j
      · rw [if_pos y, if_pos (by omega)]
      · rw [if_neg y, if_neg (by omega)]
theorem mS_rf {j n : Nat} (h : j < n) : rfB (mS j) n := fun o k x _ hx => by
  have hx : (match mH o k with | some x => if x ≤ j then some x else none | none => none) = some x := hx
  cases hz : mH o k with
  | none => rw [hz] at hx; cases hx
  | some y =>
    rw [hz] at hx
    have hx : (if y ≤ j then some y else none) = some x := hx
    by_cases w : y ≤ j
    · rw [if_pos w] at hx
      cases hx
      omega
    · rw [if_neg w] at hx
      cases hx
theorem mk_step {cc : ByteArray} {i k kd N j pc pc1 pc2 nL cells slots : Nat} {atype : ArrayType} {H0 H : Heap} {locs : List Loc} {ls : Array Slot} {x : Int32} {Q : State → Prop} (hx : p.tables.exec = Jvm.exec) (hb : c0.code = cc) (hown : s.vm.findClass (am_own 7) = some m.cls) (hts : ∀ w ∈ am_tb, w.before args s = true) (hin : meth.name = "<init>") (hl : lv_has ls nL [(0, .ref (ad 0))]) (hK : va_K D vwCl (am_tys cA) s) (hP : va_P D vwCl (am_wl cA ad lm (j + 1) (mS j)) H) (hD : va_D A (am_wl cA ad lm (j + 1) (mS j))) (hS : va_S A H0 H locs) (hA : ∀ q, H0.size ≤ q → A q) (harr : (Cond.arrayClass (newarray.typeOf atype)).before args s = true) (hty : newarray.typeOf atype = am_aty kd) (hkd : kd < 4) (hlay : lm (j + 1) = .inr (kd, N)) (hn : ¬ x < 0) (hN : x.toNatClampNeg = N) (hbytes : N * componentBytes (am_aty kd) ≤ 536870912) (hcells : cells + 1 ≤ R.cells) (hslots : slots + N ≤ R.slots) (h1 : am_T0.1 7 i = some (6, k)) (hm : mH 0 k = some (j + 1)) (e1 : am_fty 6 k = 3) (hdc : ∀ q, vwCl[6]? = some q → (q.2.1 k).1 = am_own 7) (d0 : decode cc pc = .ok (.aload_n 0, 1)) (hpush : ∀ rest, W p l e R s m args below meth c0 H locs cells slots Q (F0 m pc1 ls (.int x :: rest)) → W p l e R s m args below meth c0 H locs cells slots Q (F0 m (pc + 1) ls rest)) (d1 : decode cc pc1 = .ok (.newarray atype, 2)) (d2 : decode cc (pc1 + 2) = .ok (.putfield i, 3)) (hpc : pc1 + 5 = pc2)
    (kk : ∀ (ad' : Nat → Nat) (H1 : Heap) (locs1 : List Loc), ad' 0 = ad 0 → lv_has ls nL [(0, .ref (ad' 0))] → va_P D vwCl (am_wl cA ad' lm (j + 2) (mS (j + 1))) H1 → va_D A (am_wl cA ad' lm (j + 2) (mS (j + 1))) → va_S A H0 H1 locs1 → W p l e R s m args below meth c0 H1 locs1 (cells + 1) (slots + N) Q (F0 m pc2 ls [])) : W p l e R s m args below meth c0 H locs cells slots Q (F0 m pc ls []) := by
  refine lv_aload_n hx hb d0 rfl (lv_at hl 0 rfl) ?_
  refine hpush _ ?_
  refine mk_newa (k := kd) (N := N) hx hb harr hty hkd hK hP hD hS hA hlay rfl rfl (mS_rf (Nat.lt_succ_self j)) hn hN hbytes hcells hslots d1 (fun q H1 hP1 hD1 hS1 => ?_)
  have a0 : adU ad (j + 1) q 0 = ad 0 := if_neg (by omega)
  have a1 : adU ad (j + 1) q (j + 1) = q := if_pos rfl
  have key : W p l e R s m args below meth c0 H1 locs (cells + 1) (slots + N) Q (F0 m (pc1 + 2) ls [.ref (adU ad (j + 1) q (j + 1)), .ref (adU ad (j + 1) q 0)]) := mk_putR (c := 7) (i := i) (ci := 6) (k := k) (o := 0) (x := j + 1) hx hb hown hts hK hP1 hD1 hS1 h1 e1 (Or.inr ⟨hin, hdc⟩) (by omega) rfl d2 (fun H2 locs2 hP2 hD2 hS2 => by
    rw [mS_s hm] at hP2 hD2
    rw [show pc1 + 2 + 3 = pc2 by omega]
    exact kk (adU ad (j + 1) q) H2 locs2 a0 (by rw [a0]; exact hl) hP2 hD2 hS2)
  rw [a1, a0] at key
  exact key
end
