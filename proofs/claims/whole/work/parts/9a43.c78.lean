section
/-! THE LAW: reading the script -/
variable {p : Program} {l : Launch} {e : Env} {s : State} {m : MethodId} {args : Array Value} {below : List Frame} {meth : Method} {c0 : Code} {A0 : Nat → Prop} {R : Room}
theorem lw_ix {i j : Nat} (h : i + j < 100000) : (Int32.ofInt (i : Int) + Int32.ofInt (j : Int)).toNatClampNeg = i + j := by
  have e : Int32.ofInt (i : Int) + Int32.ofInt (j : Int) = Int32.ofInt ((i : Int) + (j : Int)) := (Int32.ofInt_add _ _).symm
  rw [e]
  have w : (Int32.ofInt ((i : Int) + (j : Int))).toInt = (i : Int) + (j : Int) := wI_e ⟨by omega, by omega⟩
  show (Int32.ofInt ((i : Int) + (j : Int))).toInt.toNat = i + j
  rw [w]
  omega
theorem lw_in {i j L : Nat} (h : i + j < 100000) (hL : i + j < L) : vp_in (Int32.ofInt (i : Int) + Int32.ofInt (j : Int)) L := by
  rintro (q | q)
  · have e : Int32.ofInt (i : Int) + Int32.ofInt (j : Int) = Int32.ofInt ((i : Int) + (j : Int)) := (Int32.ofInt_add _ _).symm
    have w : (Int32.ofInt ((i : Int) + (j : Int))).toInt = (i : Int) + (j : Int) := wI_e ⟨by omega, by omega⟩
    rw [e, Int32.lt_iff_toInt_lt, w] at q
    have : (0 : Int32).toInt = 0 := rfl
    omega
  · rw [lw_ix h] at q
    omega
theorem lw_read {pc pc' b L i j x y cells slots : Nat} {xs : Nat → Int32} {H0 H : Heap} {locs : List Loc} {ls : Array Slot} {rest : List Value} {Q : State → Prop} (hx : p.tables.exec = Jvm.exec) (hb : c0.code = code) (hX : va_X b L xs s H0) (hbl : b < H0.size) (hbA : ¬ A0 b) (hl : lv_has ls 4 [(3, .int (Int32.ofInt (i : Int))), (0, .ref b), (1, .ref x), (2, .ref y)]) (hij : i + j < 100000) (hL : i + j < L) (d0 : decode code pc = .ok (.aload_n 0, 1)) (d1 : decode code (pc + 1) = .ok (.iload_n 3, 1)) (d2 : decode code (pc + 2) = .ok (.iconst (j : Int), 1)) (d3 : decode code (pc + 3) = .ok (.iadd, 1)) (d4 : decode code (pc + 4) = .ok (.iaload, 1)) (hpc : pc + 5 = pc') (hS : va_S A0 H0 H locs) (kk : W p l e R s m args below meth c0 H locs cells slots Q (F0 m pc' ls (.int (Int32.ofInt (xs (i + j)).toInt) :: rest))) : W p l e R s m args below meth c0 H locs cells slots Q (F0 m pc ls rest) := by
  refine lv_aload_n hx hb d0 rfl (lv_at hl 1 rfl) ?_
  refine lv_iload_n hx hb d1 rfl (lv_at hl 0 rfl) ?_
  refine lv_iconst (v := Int32.ofInt (j : Int)) hx hb d2 rfl ?_
  refine lv_iadd hx hb d3 ?_
  refine va_sld hx hb hX hbl hbA hS (lw_in hij hL) d4 ?_
  rw [lw_ix hij, hpc, show xs (i + j) = Int32.ofInt (xs (i + j)).toInt from (Int32.ofInt_toInt _).symm]
  exact kk
theorem lw_bool {pc pc' cells slots : Nat} {v : Int32} {H : Heap} {locs : List Loc} {ls : Array Slot} {rest : List Value} {Q : State → Prop} (hx : p.tables.exec = Jvm.exec) (hb : c0.code = code) (d0 : decode code pc = .ok (.ifCond .eq 7, 3)) (d1 : decode code (pc + 3) = .ok (.iconst 1, 1)) (d2 : decode code (pc + 4) = .ok (.goto 4, 3)) (d3 : decode code (pc + 7) = .ok (.iconst 0, 1)) (hpc : pc + 8 = pc') (kk : W p l e R s m args below meth c0 H locs cells slots Q (F0 m pc' ls (.int (Int32.ofInt (if v = 0 then 0 else 1)) :: rest))) : W p l e R s m args below meth c0 H locs cells slots Q (F0 m pc ls (.int v :: rest)) := by
  rw [← hpc] at kk
  refine lv_if_eq (tgt := pc + 7) hx hb d0 (by omega) (fun q => ?_) (fun q => ?_)
  · refine lv_iconst (v := 0) hx hb d3 (by decide) ?_
    rw [if_pos q] at kk
    exact kk
  · refine lv_iconst (v := 1) hx hb d1 (by decide) ?_
    refine lv_goto (tgt := pc + 8) hx hb d2 (by omega) ?_
    rw [if_neg q] at kk
    exact kk
theorem lw_r (x : Int32) : rI x.toInt := hI_r (fun _ _ => x, fun _ _ => 0, fun _ _ => none) 0 0
theorem lw_b (v : Int32) : (if v = 0 then (0 : Int) else 1) = 0 ∨ (if v = 0 then (0 : Int) else 1) = 1 := by
  by_cases q : v = 0
  · rw [if_pos q]; exact Or.inl rfl
  · rw [if_neg q]; exact Or.inr rfl
theorem lw_br (v : Int32) : rI (if v = 0 then (0 : Int) else 1) := by
  rcases lw_b v with q | q <;> rw [q] <;> exact ⟨by decide, by decide⟩
/-- what stays while the law runs -/
def LwS (p : Program) (s : State) (m : MethodId) (args : Array Value) (c0 : Code) (D : va_G) (cA : Nat → ClassId) (adC adM : Nat → Nat) (AC AM A0 : Nat → Prop) (R : Room) (b L : Nat) (xs : Nat → Int32) (H0 : Heap) : Prop := p.tables.exec = Jvm.exec ∧ c0.code = code ∧ c0.maxLocals = 4 ∧ s.vm.findClass "CourseHouseLaw" = some m.cls ∧ (∀ w ∈ am_tb, w.before args s = true) ∧ va_K D vwCl (am_tys cA) s ∧ am_N s ∧ (∀ σ, va_D AC (am_wl cA adC lc 287 σ)) ∧ (∀ σ, va_D AM (am_wl cA adM lm 41 σ)) ∧ (∀ q, AC q → ¬ AM q) ∧ (∀ q, AC q → A0 q) ∧ (∀ q, AM q → A0 q) ∧ (785 ≤ R.frames ∧ 31400 ≤ R.locals) ∧ va_X b L xs s H0 ∧ b < H0.size ∧ ¬ A0 b
end
