section
/-! THE MAKERS -/
variable {l : Launch} {D : va_G} {cA : Nat → ClassId}
set_option maxRecDepth 100000 in
theorem cw_c0 : Cond.code yX0_init cX0_init 1 none ∈ lw_tbl := List.mem_of_getElem? (i := 123) (by decide +kernel)
set_option maxRecDepth 100000 in
theorem cw_i0 : Cond.instanceMethod yX0_init ∈ lw_tbl := List.mem_of_getElem? (i := 122) (by decide +kernel)
set_option maxRecDepth 100000 in
theorem cw_n0 : Cond.initialized RX0 ∈ lw_tbl := List.mem_of_getElem? (i := 92) (by decide +kernel)
set_option maxRecDepth 100000 in
theorem cw_o0 : Cond.methodLink (am_own 0) 3 Lib.objectInit ∈ lw_tbl := List.mem_of_getElem? (i := 124) (by decide +kernel)
set_option maxRecDepth 100000 in
theorem cw_s0 : Cond.instantiable RX0 12 ∈ lw_tbl := List.mem_of_getElem? (i := 120) (by decide +kernel)
theorem cY_0 : cn_Y yX0_init cX0_init 1 := ⟨cw_c0, cw_i0, cw_n0, rfl, by decide +kernel, by decide +kernel, by decide +kernel⟩
theorem mk_own0 : ∀ k, k < 12 → ∀ q, vwCl[0]? = some q → (q.2.1 k).1 = am_own 0 := by
  intro k hk q hq
  cases hq
  revert k
  show ∀ k, k < 12 → (TX0 k).1 = am_own 0
  decide +kernel
set_option maxRecDepth 100000 in
theorem cw_c1 : Cond.code yX1_init cX1_init 1 none ∈ lw_tbl := List.mem_of_getElem? (i := 117) (by decide +kernel)
set_option maxRecDepth 100000 in
theorem cw_i1 : Cond.instanceMethod yX1_init ∈ lw_tbl := List.mem_of_getElem? (i := 116) (by decide +kernel)
set_option maxRecDepth 100000 in
theorem cw_n1 : Cond.initialized RX1 ∈ lw_tbl := List.mem_of_getElem? (i := 91) (by decide +kernel)
set_option maxRecDepth 100000 in
theorem cw_o1 : Cond.methodLink (am_own 1) 3 Lib.objectInit ∈ lw_tbl := List.mem_of_getElem? (i := 118) (by decide +kernel)
set_option maxRecDepth 100000 in
theorem cw_s1 : Cond.instantiable RX1 10 ∈ lw_tbl := List.mem_of_getElem? (i := 114) (by decide +kernel)
theorem cY_1 : cn_Y yX1_init cX1_init 1 := ⟨cw_c1, cw_i1, cw_n1, rfl, by decide +kernel, by decide +kernel, by decide +kernel⟩
theorem mk_own1 : ∀ k, k < 10 → ∀ q, vwCl[1]? = some q → (q.2.1 k).1 = am_own 1 := by
  intro k hk q hq
  cases hq
  revert k
  show ∀ k, k < 10 → (TX1 k).1 = am_own 1
  decide +kernel
set_option maxRecDepth 100000 in
theorem cw_c2 : Cond.code yX2_init cX2_init 1 none ∈ lw_tbl := List.mem_of_getElem? (i := 211) (by decide +kernel)
set_option maxRecDepth 100000 in
theorem cw_i2 : Cond.instanceMethod yX2_init ∈ lw_tbl := List.mem_of_getElem? (i := 210) (by decide +kernel)
set_option maxRecDepth 100000 in
theorem cw_n2 : Cond.initialized RX2 ∈ lw_tbl := List.mem_of_getElem? (i := 93) (by decide +kernel)
set_option maxRecDepth 100000 in
theorem cw_o2 : Cond.methodLink (am_own 2) 3 Lib.objectInit ∈ lw_tbl := List.mem_of_getElem? (i := 212) (by decide +kernel)
set_option maxRecDepth 100000 in
theorem cw_s2 : Cond.instantiable RX2 9 ∈ lw_tbl := List.mem_of_getElem? (i := 208) (by decide +kernel)
theorem cY_2 : cn_Y yX2_init cX2_init 1 := ⟨cw_c2, cw_i2, cw_n2, rfl, by decide +kernel, by decide +kernel, by decide +kernel⟩
theorem mk_own2 : ∀ k, k < 9 → ∀ q, vwCl[2]? = some q → (q.2.1 k).1 = am_own 2 := by
  intro k hk q hq
  cases hq
  revert k
  show ∀ k, k < 9 → (TX2 k).1 = am_own 2
  decide +kernel
set_option maxRecDepth 100000 in
theorem cw_c3 : Cond.code yX3_init cX3_init 1 none ∈ lw_tbl := List.mem_of_getElem? (i := 277) (by decide +kernel)
set_option maxRecDepth 100000 in
theorem cw_i3 : Cond.instanceMethod yX3_init ∈ lw_tbl := List.mem_of_getElem? (i := 276) (by decide +kernel)
set_option maxRecDepth 100000 in
theorem cw_n3 : Cond.initialized RX3 ∈ lw_tbl := List.mem_of_getElem? (i := 95) (by decide +kernel)
set_option maxRecDepth 100000 in
theorem cw_o3 : Cond.methodLink (am_own 3) 3 Lib.objectInit ∈ lw_tbl := List.mem_of_getElem? (i := 278) (by decide +kernel)
set_option maxRecDepth 100000 in
theorem cw_s3 : Cond.instantiable RX3 7 ∈ lw_tbl := List.mem_of_getElem? (i := 274) (by decide +kernel)
theorem cY_3 : cn_Y yX3_init cX3_init 1 := ⟨cw_c3, cw_i3, cw_n3, rfl, by decide +kernel, by decide +kernel, by decide +kernel⟩
theorem mk_own3 : ∀ k, k < 7 → ∀ q, vwCl[3]? = some q → (q.2.1 k).1 = am_own 3 := by
  intro k hk q hq
  cases hq
  revert k
  show ∀ k, k < 7 → (TX3 k).1 = am_own 3
  decide +kernel
set_option maxRecDepth 100000 in
theorem cw_c5 : Cond.code yX5_init cX5_init 1 none ∈ lw_tbl := List.mem_of_getElem? (i := 249) (by decide +kernel)
set_option maxRecDepth 100000 in
theorem cw_i5 : Cond.instanceMethod yX5_init ∈ lw_tbl := List.mem_of_getElem? (i := 248) (by decide +kernel)
set_option maxRecDepth 100000 in
theorem cw_n5 : Cond.initialized RX5 ∈ lw_tbl := List.mem_of_getElem? (i := 94) (by decide +kernel)
set_option maxRecDepth 100000 in
theorem cw_o5 : Cond.methodLink (am_own 5) 3 Lib.objectInit ∈ lw_tbl := List.mem_of_getElem? (i := 250) (by decide +kernel)
set_option maxRecDepth 100000 in
theorem cw_s5 : Cond.instantiable RX5 6 ∈ lw_tbl := List.mem_of_getElem? (i := 246) (by decide +kernel)
theorem cY_5 : cn_Y yX5_init cX5_init 1 := ⟨cw_c5, cw_i5, cw_n5, rfl, by decide +kernel, by decide +kernel, by decide +kernel⟩
theorem mk_own5 : ∀ k, k < 6 → ∀ q, vwCl[4]? = some q → (q.2.1 k).1 = am_own 5 := by
  intro k hk q hq
  cases hq
  revert k
  show ∀ k, k < 6 → (TX5 k).1 = am_own 5
  decide +kernel
set_option maxRecDepth 100000 in
theorem cw_c6 : Cond.code yX6_init cX6_init 2 none ∈ lw_tbl := List.mem_of_getElem? (i := 105) (by decide +kernel)
set_option maxRecDepth 100000 in
theorem cw_i6 : Cond.instanceMethod yX6_init ∈ lw_tbl := List.mem_of_getElem? (i := 104) (by decide +kernel)
set_option maxRecDepth 100000 in
theorem cw_n6 : Cond.initialized RX6 ∈ lw_tbl := List.mem_of_getElem? (i := 90) (by decide +kernel)
set_option maxRecDepth 100000 in
theorem cw_o6 : Cond.methodLink (am_own 6) 3 Lib.objectInit ∈ lw_tbl := List.mem_of_getElem? (i := 106) (by decide +kernel)
set_option maxRecDepth 100000 in
theorem cw_s6 : Cond.instantiable RX6 14 ∈ lw_tbl := List.mem_of_getElem? (i := 102) (by decide +kernel)
theorem cY_6 : cn_Y yX6_init cX6_init 2 := ⟨cw_c6, cw_i6, cw_n6, rfl, by decide +kernel, by decide +kernel, by decide +kernel⟩
theorem mk_own6 : ∀ k, k < 14 → ∀ q, vwCl[5]? = some q → (q.2.1 k).1 = am_own 6 := by
  intro k hk q hq
  cases hq
  revert k
  show ∀ k, k < 14 → (TX6 k).1 = am_own 6
  decide +kernel
set_option maxRecDepth 100000 in
theorem cw_c7 : Cond.code yX7_init cX7_init 2 none ∈ lw_tbl := List.mem_of_getElem? (i := 856) (by decide +kernel)
set_option maxRecDepth 100000 in
theorem cw_i7 : Cond.instanceMethod yX7_init ∈ lw_tbl := List.mem_of_getElem? (i := 855) (by decide +kernel)
set_option maxRecDepth 100000 in
theorem cw_n7 : Cond.initialized RX7 ∈ lw_tbl := List.mem_of_getElem? (i := 97) (by decide +kernel)
set_option maxRecDepth 100000 in
theorem cw_o7 : Cond.methodLink (am_own 7) 1 Lib.objectInit ∈ lw_tbl := List.mem_of_getElem? (i := 857) (by decide +kernel)
set_option maxRecDepth 100000 in
theorem cw_s7 : Cond.instantiable RX7 67 ∈ lw_tbl := List.mem_of_getElem? (i := 853) (by decide +kernel)
theorem cY_7 : cn_Y yX7_init cX7_init 2 := ⟨cw_c7, cw_i7, cw_n7, rfl, by decide +kernel, by decide +kernel, by decide +kernel⟩
set_option maxRecDepth 100000 in
theorem cw_l10 : Cond.classLink (am_own 1) 15 RX0 ∈ lw_tbl := List.mem_of_getElem? (i := 119) (by decide +kernel)
def ly0 : Nat → Nat ⊕ (Nat × Nat) := lyL [.inl 0, .inr (0, 12), .inr (0, 12), .inr (0, 12), .inr (0, 12), .inr (0, 12), .inr (0, 12), .inr (0, 1200), .inr (0, 1200), .inr (0, 1200)]
theorem ly0_ok : am_lyok ly0 10 := lyL_ok _ rfl
def rk0 : List (Nat × List (Option Nat)) := [(0, [none, none, none, some 1, some 2, some 3, some 4, some 5, some 6, some 7, some 8, some 9])]
def ly1 : Nat → Nat ⊕ (Nat × Nat) := lyL [.inl 1, .inr (1, 600), .inl 0, .inr (0, 12), .inr (0, 12), .inr (0, 12), .inr (0, 12), .inr (0, 12), .inr (0, 12), .inr (0, 1200), .inr (0, 1200), .inr (0, 1200), .inr (0, 601), .inr (0, 601), .inr (0, 601)]
theorem ly1_ok : am_lyok ly1 15 := lyL_ok _ rfl
def rk1 : List (Nat × List (Option Nat)) := [(0, [some 1, none, some 2, some 12, some 13, some 14]), (2, [none, none, none, some 3, some 4, some 5, some 6, some 7, some 8, some 9, some 10, some 11])]
def ly2 : Nat → Nat ⊕ (Nat × Nat) := lyL [.inl 2, .inr (3, 22), .inr (3, 22), .inr (3, 602), .inr (0, 10), .inr (0, 3), .inr (0, 3)]
theorem ly2_ok : am_lyok ly2 7 := lyL_ok _ rfl
def rk2 : List (Nat × List (Option Nat)) := [(0, [some 1, some 2, some 3, some 4, some 5, some 6])]
def ly3 : Nat → Nat ⊕ (Nat × Nat) := lyL [.inl 3, .inr (0, 3), .inr (0, 3), .inr (0, 6)]
theorem ly3_ok : am_lyok ly3 4 := lyL_ok _ rfl
def rk3 : List (Nat × List (Option Nat)) := [(0, [none, none, none, none, some 1, some 2, some 3])]
def ly5 : Nat → Nat ⊕ (Nat × Nat) := lyL [.inl 4]
theorem ly5_ok : am_lyok ly5 1 := lyL_ok _ rfl
def rmk0 : Room := { frames := 1, cells := 9, slots := 3672, locals := 40 }
def rmk1 : Room := { frames := 2, cells := 14, slots := 6087, locals := 80 }
def rmk2 : Room := { frames := 1, cells := 6, slots := 662, locals := 40 }
def rmk3 : Room := { frames := 2, cells := 3, slots := 12, locals := 80 }
def rmk5 : Room := { frames := 1, cells := 0, slots := 0, locals := 40 }
def rmk7 : Room := { frames := 1, cells := 40, slots := 30936, locals := 40 }
def rmk6 : Room := { frames := 3, cells := 286, slots := 11736, locals := 120 }
theorem okl1 (q : Nat) : am_okl [some (vR (some q))] := fun i v hv => by
  match i, hv with
  | 0, hv => cases hv; exact trivial
  | i + 1, hv => cases hv
theorem cn_0 : cn_Met l D cA yX0_init cX0_init 1 0 rmk0 ly0 10 (ck (fun _ _ => 0) (rkT rk0) 10) := by
  refine mk_met (c := 0) (idx := 3) (by decide +kernel) rfl rfl (by decide) rfl cw_o0 ⟨by decide, by decide⟩ dX0_init_0 dX0_init_1 (fun p e s m args below meth c0 a A ls C hA G hl => ?_)
  have C0 := C
  obtain ⟨hx, hb, -⟩ := C0
  have a0 : (fun _ : Nat => a) 0 = a := rfl
  rw [← rkT_1 (T := rk0) (by decide +kernel)] at G
  refine st_arr (lay := ly0) (ad := (fun _ => a)) (c := 0) (i := 9) (ci := 0) (k := 3) (kd := 0) (N := 12) (n := 1) (pc := 4) (pc1 := 7) (pc2 := 12) (cells := 0) (slots := 0) (x := 12) (atype := .int) (σ := ck (fun _ _ => 0) (rkT rk0) 1) (σ' := ck (fun _ _ => 0) (rkT rk0) 2) C hA hl rfl G a0 (by decide) mk_ar_int rfl (by decide) rfl (by decide) rfl (Nat.le_of_ble_eq_true rfl) (Nat.le_of_ble_eq_true rfl) (Nat.le_of_ble_eq_true rfl) (ck_rf _ _ _) rfl rfl (ck_s rfl (rkT_u (by decide +kernel))) tf_0_9 rfl (mk_own0 3 (by decide)) dX0_init_4 (fun rest kk => lv_bipush (v := 12) hx hb dX0_init_5 (by decide) kk) dX0_init_7 dX0_init_9 rfl (fun ad1 H locs a0 G => ?_)
  refine st_arr (lay := ly0) (ad := ad1) (c := 0) (i := 15) (ci := 0) (k := 4) (kd := 0) (N := 12) (n := 2) (pc := 12) (pc1 := 15) (pc2 := 20) (cells := 1) (slots := 12) (x := 12) (atype := .int) (σ := ck (fun _ _ => 0) (rkT rk0) 2) (σ' := ck (fun _ _ => 0) (rkT rk0) 3) C hA hl rfl G a0 (by decide) mk_ar_int rfl (by decide) rfl (by decide) rfl (Nat.le_of_ble_eq_true rfl) (Nat.le_of_ble_eq_true rfl) (Nat.le_of_ble_eq_true rfl) (ck_rf _ _ _) rfl rfl (ck_s rfl (rkT_u (by decide +kernel))) tf_0_15 rfl (mk_own0 4 (by decide)) dX0_init_12 (fun rest kk => lv_bipush (v := 12) hx hb dX0_init_13 (by decide) kk) dX0_init_15 dX0_init_17 rfl (fun ad2 H locs a0 G => ?_)
  refine st_arr (lay := ly0) (ad := ad2) (c := 0) (i := 18) (ci := 0) (k := 5) (kd := 0) (N := 12) (n := 3) (pc := 20) (pc1 := 23) (pc2 := 28) (cells := 2) (slots := 24) (x := 12) (atype := .int) (σ := ck (fun _ _ => 0) (rkT rk0) 3) (σ' := ck (fun _ _ => 0) (rkT rk0) 4) C hA hl rfl G a0 (by decide) mk_ar_int rfl (by decide) rfl (by decide) rfl (Nat.le_of_ble_eq_true rfl) (Nat.le_of_ble_eq_true rfl) (Nat.le_of_ble_eq_true rfl) (ck_rf _ _ _) rfl rfl (ck_s rfl (rkT_u (by decide +kernel))) tf_0_18 rfl (mk_own0 5 (by decide)) dX0_init_20 (fun rest kk => lv_bipush (v := 12) hx hb dX0_init_21 (by decide) kk) dX0_init_23 dX0_init_25 rfl (fun ad3 H locs a0 G => ?_)
  refine st_arr (lay := ly0) (ad := ad3) (c := 0) (i := 21) (ci := 0) (k := 6) (kd := 0) (N := 12) (n := 4) (pc := 28) (pc1 := 31) (pc2 := 36) (cells := 3) (slots := 36) (x := 12) (atype := .int) (σ := ck (fun _ _ => 0) (rkT rk0) 4) (σ' := ck (fun _ _ => 0) (rkT rk0) 5) C hA hl rfl G a0 (by decide) mk_ar_int rfl (by decide) rfl (by decide) rfl (Nat.le_of_ble_eq_true rfl) (Nat.le_of_ble_eq_true rfl) (Nat.le_of_ble_eq_true rfl) (ck_rf _ _ _) rfl rfl (ck_s rfl (rkT_u (by decide +kernel))) tf_0_21 rfl (mk_own0 6 (by decide)) dX0_init_28 (fun rest kk => lv_bipush (v := 12) hx hb dX0_init_29 (by decide) kk) dX0_init_31 dX0_init_33 rfl (fun ad4 H locs a0 G => ?_)
  refine st_arr (lay := ly0) (ad := ad4) (c := 0) (i := 24) (ci := 0) (k := 7) (kd := 0) (N := 12) (n := 5) (pc := 36) (pc1 := 39) (pc2 := 44) (cells := 4) (slots := 48) (x := 12) (atype := .int) (σ := ck (fun _ _ => 0) (rkT rk0) 5) (σ' := ck (fun _ _ => 0) (rkT rk0) 6) C hA hl rfl G a0 (by decide) mk_ar_int rfl (by decide) rfl (by decide) rfl (Nat.le_of_ble_eq_true rfl) (Nat.le_of_ble_eq_true rfl) (Nat.le_of_ble_eq_true rfl) (ck_rf _ _ _) rfl rfl (ck_s rfl (rkT_u (by decide +kernel))) tf_0_24 rfl (mk_own0 7 (by decide)) dX0_init_36 (fun rest kk => lv_bipush (v := 12) hx hb dX0_init_37 (by decide) kk) dX0_init_39 dX0_init_41 rfl (fun ad5 H locs a0 G => ?_)
  refine st_arr (lay := ly0) (ad := ad5) (c := 0) (i := 27) (ci := 0) (k := 8) (kd := 0) (N := 12) (n := 6) (pc := 44) (pc1 := 47) (pc2 := 52) (cells := 5) (slots := 60) (x := 12) (atype := .int) (σ := ck (fun _ _ => 0) (rkT rk0) 6) (σ' := ck (fun _ _ => 0) (rkT rk0) 7) C hA hl rfl G a0 (by decide) mk_ar_int rfl (by decide) rfl (by decide) rfl (Nat.le_of_ble_eq_true rfl) (Nat.le_of_ble_eq_true rfl) (Nat.le_of_ble_eq_true rfl) (ck_rf _ _ _) rfl rfl (ck_s rfl (rkT_u (by decide +kernel))) tf_0_27 rfl (mk_own0 8 (by decide)) dX0_init_44 (fun rest kk => lv_bipush (v := 12) hx hb dX0_init_45 (by decide) kk) dX0_init_47 dX0_init_49 rfl (fun ad6 H locs a0 G => ?_)
  refine st_arr (lay := ly0) (ad := ad6) (c := 0) (i := 30) (ci := 0) (k := 9) (kd := 0) (N := 1200) (n := 7) (pc := 52) (pc1 := 56) (pc2 := 61) (cells := 6) (slots := 72) (x := 1200) (atype := .int) (σ := ck (fun _ _ => 0) (rkT rk0) 7) (σ' := ck (fun _ _ => 0) (rkT rk0) 8) C hA hl rfl G a0 (by decide) mk_ar_int rfl (by decide) rfl (by decide) rfl (Nat.le_of_ble_eq_true rfl) (Nat.le_of_ble_eq_true rfl) (Nat.le_of_ble_eq_true rfl) (ck_rf _ _ _) rfl rfl (ck_s rfl (rkT_u (by decide +kernel))) tf_0_30 rfl (mk_own0 9 (by decide)) dX0_init_52 (fun rest kk => lv_sipush (v := 1200) hx hb dX0_init_53 (by decide) kk) dX0_init_56 dX0_init_58 rfl (fun ad7 H locs a0 G => ?_)
  refine st_arr (lay := ly0) (ad := ad7) (c := 0) (i := 33) (ci := 0) (k := 10) (kd := 0) (N := 1200) (n := 8) (pc := 61) (pc1 := 65) (pc2 := 70) (cells := 7) (slots := 1272) (x := 1200) (atype := .int) (σ := ck (fun _ _ => 0) (rkT rk0) 8) (σ' := ck (fun _ _ => 0) (rkT rk0) 9) C hA hl rfl G a0 (by decide) mk_ar_int rfl (by decide) rfl (by decide) rfl (Nat.le_of_ble_eq_true rfl) (Nat.le_of_ble_eq_true rfl) (Nat.le_of_ble_eq_true rfl) (ck_rf _ _ _) rfl rfl (ck_s rfl (rkT_u (by decide +kernel))) tf_0_33 rfl (mk_own0 10 (by decide)) dX0_init_61 (fun rest kk => lv_sipush (v := 1200) hx hb dX0_init_62 (by decide) kk) dX0_init_65 dX0_init_67 rfl (fun ad8 H locs a0 G => ?_)
  refine st_arr (lay := ly0) (ad := ad8) (c := 0) (i := 36) (ci := 0) (k := 11) (kd := 0) (N := 1200) (n := 9) (pc := 70) (pc1 := 74) (pc2 := 79) (cells := 8) (slots := 2472) (x := 1200) (atype := .int) (σ := ck (fun _ _ => 0) (rkT rk0) 9) (σ' := ck (fun _ _ => 0) (rkT rk0) 10) C hA hl rfl G a0 (by decide) mk_ar_int rfl (by decide) rfl (by decide) rfl (Nat.le_of_ble_eq_true rfl) (Nat.le_of_ble_eq_true rfl) (Nat.le_of_ble_eq_true rfl) (ck_rf _ _ _) rfl rfl (ck_s rfl (rkT_u (by decide +kernel))) tf_0_36 rfl (mk_own0 11 (by decide)) dX0_init_70 (fun rest kk => lv_sipush (v := 1200) hx hb dX0_init_71 (by decide) kk) dX0_init_74 dX0_init_76 rfl (fun ad9 H locs a0 G => ?_)
  exact st_end C G a0 dX0_init_79
theorem cn_2 : cn_Met l D cA yX2_init cX2_init 1 2 rmk2 ly2 7 (ck (fun _ _ => 0) (rkT rk2) 7) := by
  refine mk_met (c := 2) (idx := 3) (by decide +kernel) rfl rfl (by decide) rfl cw_o2 ⟨by decide, by decide⟩ dX2_init_0 dX2_init_1 (fun p e s m args below meth c0 a A ls C hA G hl => ?_)
  have C0 := C
  obtain ⟨hx, hb, -⟩ := C0
  have a0 : (fun _ : Nat => a) 0 = a := rfl
  rw [← rkT_1 (T := rk2) (by decide +kernel)] at G
  refine st_arr (lay := ly2) (ad := (fun _ => a)) (c := 2) (i := 9) (ci := 2) (k := 0) (kd := 3) (N := 22) (n := 1) (pc := 4) (pc1 := 7) (pc2 := 12) (cells := 0) (slots := 0) (x := 22) (atype := .long) (σ := ck (fun _ _ => 0) (rkT rk2) 1) (σ' := ck (fun _ _ => 0) (rkT rk2) 2) C hA hl rfl G a0 (by decide) mk_ar_long rfl (by decide) rfl (by decide) rfl (Nat.le_of_ble_eq_true rfl) (Nat.le_of_ble_eq_true rfl) (Nat.le_of_ble_eq_true rfl) (ck_rf _ _ _) rfl rfl (ck_s rfl (rkT_u (by decide +kernel))) tf_2_9 rfl (mk_own2 0 (by decide)) dX2_init_4 (fun rest kk => lv_bipush (v := 22) hx hb dX2_init_5 (by decide) kk) dX2_init_7 dX2_init_9 rfl (fun ad10 H locs a0 G => ?_)
  refine st_arr (lay := ly2) (ad := ad10) (c := 2) (i := 15) (ci := 2) (k := 1) (kd := 3) (N := 22) (n := 2) (pc := 12) (pc1 := 15) (pc2 := 20) (cells := 1) (slots := 22) (x := 22) (atype := .long) (σ := ck (fun _ _ => 0) (rkT rk2) 2) (σ' := ck (fun _ _ => 0) (rkT rk2) 3) C hA hl rfl G a0 (by decide) mk_ar_long rfl (by decide) rfl (by decide) rfl (Nat.le_of_ble_eq_true rfl) (Nat.le_of_ble_eq_true rfl) (Nat.le_of_ble_eq_true rfl) (ck_rf _ _ _) rfl rfl (ck_s rfl (rkT_u (by decide +kernel))) tf_2_15 rfl (mk_own2 1 (by decide)) dX2_init_12 (fun rest kk => lv_bipush (v := 22) hx hb dX2_init_13 (by decide) kk) dX2_init_15 dX2_init_17 rfl (fun ad11 H locs a0 G => ?_)
  refine st_arr (lay := ly2) (ad := ad11) (c := 2) (i := 18) (ci := 2) (k := 2) (kd := 3) (N := 602) (n := 3) (pc := 20) (pc1 := 24) (pc2 := 29) (cells := 2) (slots := 44) (x := 602) (atype := .long) (σ := ck (fun _ _ => 0) (rkT rk2) 3) (σ' := ck (fun _ _ => 0) (rkT rk2) 4) C hA hl rfl G a0 (by decide) mk_ar_long rfl (by decide) rfl (by decide) rfl (Nat.le_of_ble_eq_true rfl) (Nat.le_of_ble_eq_true rfl) (Nat.le_of_ble_eq_true rfl) (ck_rf _ _ _) rfl rfl (ck_s rfl (rkT_u (by decide +kernel))) tf_2_18 rfl (mk_own2 2 (by decide)) dX2_init_20 (fun rest kk => lv_sipush (v := 602) hx hb dX2_init_21 (by decide) kk) dX2_init_24 dX2_init_26 rfl (fun ad12 H locs a0 G => ?_)
  refine st_arr (lay := ly2) (ad := ad12) (c := 2) (i := 21) (ci := 2) (k := 3) (kd := 0) (N := 10) (n := 4) (pc := 29) (pc1 := 32) (pc2 := 37) (cells := 3) (slots := 646) (x := 10) (atype := .int) (σ := ck (fun _ _ => 0) (rkT rk2) 4) (σ' := ck (fun _ _ => 0) (rkT rk2) 5) C hA hl rfl G a0 (by decide) mk_ar_int rfl (by decide) rfl (by decide) rfl (Nat.le_of_ble_eq_true rfl) (Nat.le_of_ble_eq_true rfl) (Nat.le_of_ble_eq_true rfl) (ck_rf _ _ _) rfl rfl (ck_s rfl (rkT_u (by decide +kernel))) tf_2_21 rfl (mk_own2 3 (by decide)) dX2_init_29 (fun rest kk => lv_bipush (v := 10) hx hb dX2_init_30 (by decide) kk) dX2_init_32 dX2_init_34 rfl (fun ad13 H locs a0 G => ?_)
  refine st_arr (lay := ly2) (ad := ad13) (c := 2) (i := 25) (ci := 2) (k := 4) (kd := 0) (N := 3) (n := 5) (pc := 37) (pc1 := 39) (pc2 := 44) (cells := 4) (slots := 656) (x := 3) (atype := .int) (σ := ck (fun _ _ => 0) (rkT rk2) 5) (σ' := ck (fun _ _ => 0) (rkT rk2) 6) C hA hl rfl G a0 (by decide) mk_ar_int rfl (by decide) rfl (by decide) rfl (Nat.le_of_ble_eq_true rfl) (Nat.le_of_ble_eq_true rfl) (Nat.le_of_ble_eq_true rfl) (ck_rf _ _ _) rfl rfl (ck_s rfl (rkT_u (by decide +kernel))) tf_2_25 rfl (mk_own2 4 (by decide)) dX2_init_37 (fun rest kk => lv_iconst (v := 3) hx hb dX2_init_38 (by decide) kk) dX2_init_39 dX2_init_41 rfl (fun ad14 H locs a0 G => ?_)
  refine st_arr (lay := ly2) (ad := ad14) (c := 2) (i := 28) (ci := 2) (k := 5) (kd := 0) (N := 3) (n := 6) (pc := 44) (pc1 := 46) (pc2 := 51) (cells := 5) (slots := 659) (x := 3) (atype := .int) (σ := ck (fun _ _ => 0) (rkT rk2) 6) (σ' := ck (fun _ _ => 0) (rkT rk2) 7) C hA hl rfl G a0 (by decide) mk_ar_int rfl (by decide) rfl (by decide) rfl (Nat.le_of_ble_eq_true rfl) (Nat.le_of_ble_eq_true rfl) (Nat.le_of_ble_eq_true rfl) (ck_rf _ _ _) rfl rfl (ck_s rfl (rkT_u (by decide +kernel))) tf_2_28 rfl (mk_own2 5 (by decide)) dX2_init_44 (fun rest kk => lv_iconst (v := 3) hx hb dX2_init_45 (by decide) kk) dX2_init_46 dX2_init_48 rfl (fun ad15 H locs a0 G => ?_)
  exact st_end C G a0 dX2_init_51
def wk0 : am_HS := uI z0 0 4 (-1)
theorem cn_5 : cn_Met l D cA yX5_init cX5_init 1 4 rmk5 ly5 1 (wk0) := by
  refine mk_met (c := 5) (idx := 3) (by decide +kernel) rfl rfl (by decide) rfl cw_o5 ⟨by decide, by decide⟩ dX5_init_0 dX5_init_1 (fun p e s m args below meth c0 a A ls C hA G hl => ?_)
  have C0 := C
  obtain ⟨hx, hb, -⟩ := C0
  have a0 : (fun _ : Nat => a) 0 = a := rfl
  refine st_tie (d := 0) (lv := [some (vR (some 0))]) C G a0 ly5_ok ⟨by decide, by decide⟩ hl (okl1 0) ⟨Nat.le_refl _, Nat.le_refl _⟩ ?_
  refine g_aload_n dX5_init_4 rfl ?_
  refine g_iconst dX5_init_5 ⟨by decide, by decide⟩ ?_
  refine g_putI dX5_init_6 tf_5_9 rfl rfl rfl ?_
  exact g_return dX5_init_9 rfl ⟨rfl, rfl⟩
def shI : Nat → Nat → Int32 := (uI z0 0 3 (-1)).1
def sh0 : am_HS := fillI (fillI (ck shI (rkT rk3) 4) 2 3 (-1)) 3 6 (-1)
theorem shI_0 {n : Nat} (h : 0 < n) : shI n = fun _ => 0 := by
  funext j
  show (if n = 0 ∧ j = 3 then Int32.ofInt (-1) else 0) = 0
  rw [if_neg (by omega)]
theorem shI_1 : uI z0 0 3 (-1) = ck shI (rkT rk3) 1 := by
  have h := rkT_1 (T := rk3) (by decide +kernel)
  refine Prod.ext rfl ?_
  show z0.2 = (ck (fun _ _ => 0) (rkT rk3) 1).2
  rw [h]
theorem cn_3 : cn_Met l D cA yX3_init cX3_init 1 3 rmk3 ly3 4 (sh0) := by
  refine mk_met (c := 3) (idx := 3) (by decide +kernel) rfl rfl (by decide) rfl cw_o3 ⟨by decide, by decide⟩ dX3_init_0 dX3_init_1 (fun p e s m args below meth c0 a A ls C hA G hl => ?_)
  have C0 := C
  obtain ⟨hx, hb, -⟩ := C0
  have a0 : (fun _ : Nat => a) 0 = a := rfl
  refine lv_aload_n hx hb dX3_init_4 rfl (lv_at hl 0 rfl) ?_
  refine lv_iconst (v := -1) hx hb dX3_init_5 (by decide) ?_
  refine st_putI (ad := (fun _ => a)) (v := -1) (o := 0) (k := 3) (ci := 3) C G tf_3_9 rfl rfl (by decide) rfl dX3_init_6 (fun H locs G => ?_)
  rw [shI_1] at G
  refine st_arr (lay := ly3) (ad := (fun _ => a)) (c := 3) (i := 15) (ci := 3) (k := 4) (kd := 0) (N := 3) (n := 1) (pc := 9) (pc1 := 11) (pc2 := 16) (cells := 0) (slots := 0) (x := 3) (atype := .int) (σ := ck shI (rkT rk3) 1) (σ' := ck shI (rkT rk3) 2) C hA hl rfl G a0 (by decide) mk_ar_int rfl (by decide) rfl (by decide) rfl (Nat.le_of_ble_eq_true rfl) (Nat.le_of_ble_eq_true rfl) (Nat.le_of_ble_eq_true rfl) (ck_rf _ _ _) (shI_0 (n := 1) (by decide)) rfl (ck_s rfl (rkT_u (by decide +kernel))) tf_3_15 rfl (mk_own3 4 (by decide)) dX3_init_9 (fun rest kk => lv_iconst (v := 3) hx hb dX3_init_10 (by decide) kk) dX3_init_11 dX3_init_13 rfl (fun ad16 H locs a0 G => ?_)
  refine st_arr (lay := ly3) (ad := ad16) (c := 3) (i := 19) (ci := 3) (k := 5) (kd := 0) (N := 3) (n := 2) (pc := 16) (pc1 := 18) (pc2 := 23) (cells := 1) (slots := 3) (x := 3) (atype := .int) (σ := ck shI (rkT rk3) 2) (σ' := ck shI (rkT rk3) 3) C hA hl rfl G a0 (by decide) mk_ar_int rfl (by decide) rfl (by decide) rfl (Nat.le_of_ble_eq_true rfl) (Nat.le_of_ble_eq_true rfl) (Nat.le_of_ble_eq_true rfl) (ck_rf _ _ _) (shI_0 (n := 2) (by decide)) rfl (ck_s rfl (rkT_u (by decide +kernel))) tf_3_19 rfl (mk_own3 5 (by decide)) dX3_init_16 (fun rest kk => lv_iconst (v := 3) hx hb dX3_init_17 (by decide) kk) dX3_init_18 dX3_init_20 rfl (fun ad17 H locs a0 G => ?_)
  refine st_arr (lay := ly3) (ad := ad17) (c := 3) (i := 22) (ci := 3) (k := 6) (kd := 0) (N := 6) (n := 3) (pc := 23) (pc1 := 26) (pc2 := 31) (cells := 2) (slots := 6) (x := 6) (atype := .int) (σ := ck shI (rkT rk3) 3) (σ' := ck shI (rkT rk3) 4) C hA hl rfl G a0 (by decide) mk_ar_int rfl (by decide) rfl (by decide) rfl (Nat.le_of_ble_eq_true rfl) (Nat.le_of_ble_eq_true rfl) (Nat.le_of_ble_eq_true rfl) (ck_rf _ _ _) (shI_0 (n := 3) (by decide)) rfl (ck_s rfl (rkT_u (by decide +kernel))) tf_3_22 rfl (mk_own3 6 (by decide)) dX3_init_23 (fun rest kk => lv_bipush (v := 6) hx hb dX3_init_24 (by decide) kk) dX3_init_26 dX3_init_28 rfl (fun ad18 H locs a0 G => ?_)
  refine st_tie (d := 1) (lv := [some (vR (some 0))]) C G a0 ly3_ok ⟨by decide, by decide⟩ (by rw [show am_kn ad18 [some (vR (some 0))] = [(0, Value.ref (ad18 0))] from rfl, a0]; exact hl) (okl1 0) ⟨Nat.le_refl _, Nat.le_refl _⟩ ?_
  refine g_aload_n dX3_init_31 rfl ?_
  refine g_getA dX3_init_32 tf_3_19 rfl rfl (a := 2) rfl ?_
  refine g_iconst dX3_init_35 ⟨by decide, by decide⟩ ?_
  refine g_callsV dX3_init_36 tm_3_25 rfl ⟨Nat.le_of_ble_eq_true rfl, rfl, rfl⟩ (Nat.le_of_ble_eq_true rfl) (cn_fill (by decide) _ 2 3 rfl (by decide) (-1)) (fun s1 h1 => ?_)
  subst h1
  refine g_aload_n dX3_init_39 rfl ?_
  refine g_getA dX3_init_40 tf_3_22 rfl rfl (a := 3) rfl ?_
  refine g_iconst dX3_init_43 ⟨by decide, by decide⟩ ?_
  refine g_callsV dX3_init_44 tm_3_25 rfl ⟨Nat.le_of_ble_eq_true rfl, rfl, rfl⟩ (Nat.le_of_ble_eq_true rfl) (cn_fill (by decide) _ 3 6 rfl (by decide) (-1)) (fun s1 h1 => ?_)
  subst h1
  exact g_return dX3_init_47 rfl ⟨rfl, rfl⟩
def rdr0 : am_HS := uI (ck (fun _ _ => 0) (rkT rk1) 15) 0 9 (-1)
theorem cn_1 : cn_Met l D cA yX1_init cX1_init 1 1 rmk1 ly1 15 (rdr0) := by
  refine mk_met (c := 1) (idx := 3) (by decide +kernel) rfl rfl (by decide) rfl cw_o1 ⟨by decide, by decide⟩ dX1_init_0 dX1_init_1 (fun p e s m args below meth c0 a A ls C hA G hl => ?_)
  have C0 := C
  obtain ⟨hx, hb, -⟩ := C0
  have a0 : (fun _ : Nat => a) 0 = a := rfl
  rw [← rkT_1 (T := rk1) (by decide +kernel)] at G
  refine st_arr (lay := ly1) (ad := (fun _ => a)) (c := 1) (i := 9) (ci := 1) (k := 0) (kd := 1) (N := 600) (n := 1) (pc := 4) (pc1 := 8) (pc2 := 13) (cells := 0) (slots := 0) (x := 600) (atype := .byte) (σ := ck (fun _ _ => 0) (rkT rk1) 1) (σ' := ck (fun _ _ => 0) (rkT rk1) 2) C hA hl rfl G a0 (by decide) mk_ar_byte rfl (by decide) rfl (by decide) rfl (Nat.le_of_ble_eq_true rfl) (Nat.le_of_ble_eq_true rfl) (Nat.le_of_ble_eq_true rfl) (ck_rf _ _ _) rfl rfl (ck_s rfl (rkT_u (by decide +kernel))) tf_1_9 rfl (mk_own1 0 (by decide)) dX1_init_4 (fun rest kk => lv_sipush (v := 600) hx hb dX1_init_5 (by decide) kk) dX1_init_8 dX1_init_10 rfl (fun ad19 H locs a0 G => ?_)
  refine st_obj (lay := ly1) (ad := ad19) (c := 1) (i := 18) (ci := 1) (ci2 := 0) (idx := 15) (j := 17) (k := 2) (kR := 10) (n := 2) (pc := 13) (cells := 1) (slots := 600) (σ := ck (fun _ _ => 0) (rkT rk1) 2) (X := cx (fun _ _ => 0) (rkT rk1) 12 0 2) (σ' := ck (fun _ _ => 0) (rkT rk1) 12) C hA hl rfl G a0 (by decide) rfl cw_l10 cw_s0 cw_n0 cn_0 cY_0 (Or.inr (by decide +kernel)) ⟨by decide, by decide⟩ (Nat.le_of_ble_eq_true rfl) (Nat.le_of_ble_eq_true rfl) (ck_rf _ _ _) (cx_l (m := 10) rfl (rk_tu (by decide +kernel))) (cx_r (n := 2) (m := 10) (by decide) (by decide +kernel) (fun _ _ => rfl) rfl (ck_all (rkT_lt (by decide +kernel))) (fun i hi => rk_tr ((by decide +kernel : ∀ i, i < 10 → rkO rk1 (2 + i) = (rkO rk0 i).map (Option.map (fun x => 2 + x))) i hi)) (rkT_lt (by decide +kernel))) (cx_s (n := 2) (m := 10) rfl (by decide)) tf_1_18 rfl (mk_own1 2 (by decide)) dX1_init_13 dX1_init_14 dX1_init_17 dX1_init_18 dX1_init_21 (fun ad20 H locs a0 G => ?_)
  refine st_arr (lay := ly1) (ad := ad20) (c := 1) (i := 22) (ci := 1) (k := 3) (kd := 0) (N := 601) (n := 12) (pc := 24) (pc1 := 28) (pc2 := 33) (cells := 11) (slots := 4284) (x := 601) (atype := .int) (σ := ck (fun _ _ => 0) (rkT rk1) 12) (σ' := ck (fun _ _ => 0) (rkT rk1) 13) C hA hl rfl G a0 (by decide) mk_ar_int rfl (by decide) rfl (by decide) rfl (Nat.le_of_ble_eq_true rfl) (Nat.le_of_ble_eq_true rfl) (Nat.le_of_ble_eq_true rfl) (ck_rf _ _ _) rfl rfl (ck_s rfl (rkT_u (by decide +kernel))) tf_1_22 rfl (mk_own1 3 (by decide)) dX1_init_24 (fun rest kk => lv_sipush (v := 601) hx hb dX1_init_25 (by decide) kk) dX1_init_28 dX1_init_30 rfl (fun ad21 H locs a0 G => ?_)
  refine st_arr (lay := ly1) (ad := ad21) (c := 1) (i := 26) (ci := 1) (k := 4) (kd := 0) (N := 601) (n := 13) (pc := 33) (pc1 := 37) (pc2 := 42) (cells := 12) (slots := 4885) (x := 601) (atype := .int) (σ := ck (fun _ _ => 0) (rkT rk1) 13) (σ' := ck (fun _ _ => 0) (rkT rk1) 14) C hA hl rfl G a0 (by decide) mk_ar_int rfl (by decide) rfl (by decide) rfl (Nat.le_of_ble_eq_true rfl) (Nat.le_of_ble_eq_true rfl) (Nat.le_of_ble_eq_true rfl) (ck_rf _ _ _) rfl rfl (ck_s rfl (rkT_u (by decide +kernel))) tf_1_26 rfl (mk_own1 4 (by decide)) dX1_init_33 (fun rest kk => lv_sipush (v := 601) hx hb dX1_init_34 (by decide) kk) dX1_init_37 dX1_init_39 rfl (fun ad22 H locs a0 G => ?_)
  refine st_arr (lay := ly1) (ad := ad22) (c := 1) (i := 29) (ci := 1) (k := 5) (kd := 0) (N := 601) (n := 14) (pc := 42) (pc1 := 46) (pc2 := 51) (cells := 13) (slots := 5486) (x := 601) (atype := .int) (σ := ck (fun _ _ => 0) (rkT rk1) 14) (σ' := ck (fun _ _ => 0) (rkT rk1) 15) C hA hl rfl G a0 (by decide) mk_ar_int rfl (by decide) rfl (by decide) rfl (Nat.le_of_ble_eq_true rfl) (Nat.le_of_ble_eq_true rfl) (Nat.le_of_ble_eq_true rfl) (ck_rf _ _ _) rfl rfl (ck_s rfl (rkT_u (by decide +kernel))) tf_1_29 rfl (mk_own1 5 (by decide)) dX1_init_42 (fun rest kk => lv_sipush (v := 601) hx hb dX1_init_43 (by decide) kk) dX1_init_46 dX1_init_48 rfl (fun ad23 H locs a0 G => ?_)
  refine st_tie (d := 0) (lv := [some (vR (some 0))]) C G a0 ly1_ok ⟨by decide, by decide⟩ (by rw [show am_kn ad23 [some (vR (some 0))] = [(0, Value.ref (ad23 0))] from rfl, a0]; exact hl) (okl1 0) ⟨Nat.le_refl _, Nat.le_refl _⟩ ?_
  refine g_aload_n dX1_init_51 rfl ?_
  refine g_iconst dX1_init_52 ⟨by decide, by decide⟩ ?_
  refine g_putI dX1_init_53 tf_1_32 rfl rfl rfl ?_
  exact g_return dX1_init_56 rfl ⟨rfl, rfl⟩
end
