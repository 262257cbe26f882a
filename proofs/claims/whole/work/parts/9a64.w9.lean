section
/-! THE MAKER OF ALL: its walk -/
variable {p : Program} {l : Launch} {e : Env} {s : State} {m : MethodId} {args : Array Value} {below : List Frame} {meth : Method} {c0 : Code} {D : va_G} {cA : Nat → ClassId} {A : Nat → Prop}
theorem ch_w {a : Nat} {Q : State → Prop} (C : mk_C p s m args meth c0 D cA 6 cX6_init 2) (hA : ∀ q, s.heap.size ≤ q → A q) (hend : ∀ (ad : Nat → Nat) (H : Heap) (locs : List Loc) (ls : Array Slot), ad 0 = a → mk_G D cA A s.heap ly6 47 (chS 47) ad H locs → lv_has ls 2 [(1, .int (Int32.ofInt ((10 : Nat) : Int))), (0, .ref a)] → W p l e rmk6 s m args below meth c0 H locs 46 10596 Q (F0 m 101 ls [])) : ∀ (f q : Nat), q + f = 10 → ∀ (ad : Nat → Nat) (H : Heap) (locs : List Loc) (ls : Array Slot), ad 0 = a → mk_G D cA A s.heap ly6 (37 + q) (chS (37 + q)) ad H locs → lv_has ls 2 [(1, .int (Int32.ofInt (q : Int))), (0, .ref a)] → W p l e rmk6 s m args below meth c0 H locs (36 + q) (10536 + 6 * q) Q (F0 m 73 ls []) := by
  have C0 := C
  obtain ⟨hx, hb, hml, hlocks, hown, hts, hin, hret, hK, hN⟩ := C0
  intro f
  induction f with
  | zero =>
      intro q hq ad H locs ls a0 G hl
      subst a0
      obtain rfl : q = 10 := by omega
      have hrow : (chS (37 + 10)).2.2 0 1 = some 2 := by
        show (if 2 < (37 + 10) then some 2 else none) = some 2
        exact if_pos (by omega)
      refine lv_iload_n hx hb dX6_init_73 rfl (lv_at hl 0 rfl) ?_
      refine lv_aload_n hx hb dX6_init_74 rfl (lv_at hl 1 rfl) ?_
      refine st_getR (o := 0) (x := 2) C G tf_6_15 rfl (by omega) rfl hrow dX6_init_75 ?_
      refine st_alen (o := 2) (k := 4) (N := 10) C G (by omega) rfl (by decide) dX6_init_78 ?_
      refine lv_icmp_ge (tgt := 101) hx hb dX6_init_79 (by decide) (fun hc => ?_) (fun hc => ?_)
      · exact hend ad H locs ls rfl G hl
      · exact absurd ((ij_le ⟨by decide, by decide⟩ ⟨by decide, by decide⟩).mpr (Int.le_refl _)) hc
  | succ f ih =>
      intro q hq ad H locs ls a0 G hl
      subst a0
      have hqN : q < 10 := by omega
      have rq : rI (q : Int) := ⟨by omega, by omega⟩
      have hrow : (chS (37 + q)).2.2 0 1 = some 2 := by
        show (if 2 < (37 + q) then some 2 else none) = some 2
        exact if_pos (by omega)
      refine lv_iload_n hx hb dX6_init_73 rfl (lv_at hl 0 rfl) ?_
      refine lv_aload_n hx hb dX6_init_74 rfl (lv_at hl 1 rfl) ?_
      refine st_getR (o := 0) (x := 2) C G tf_6_15 rfl (by omega) rfl hrow dX6_init_75 ?_
      refine st_alen (o := 2) (k := 4) (N := 10) C G (by omega) rfl (by decide) dX6_init_78 ?_
      refine lv_icmp_ge (tgt := 101) hx hb dX6_init_79 (by decide) (fun hc => ?_) (fun hc => ?_)
      · have := (ij_le ⟨by decide, by decide⟩ rq).mp hc
        omega
      · refine lv_aload_n hx hb dX6_init_82 rfl (lv_at hl 1 rfl) ?_
        refine st_getR (o := 0) (x := 2) C G tf_6_15 rfl (by omega) rfl hrow dX6_init_83 ?_
        refine lv_iload_n hx hb dX6_init_86 rfl (lv_at hl 0 rfl) ?_
        refine mk_obj (own := am_own 6) (ci := 4) hx hb hml hl.1 hown hts hK hN G.1 G.2.1 G.2.2 hA rfl cw_l65 cw_s5 cw_n5 cn_5 cY_5 (Or.inr (by decide +kernel)) ⟨by decide, by decide⟩ (show (36 + q) + 1 + 0 ≤ 286 by omega) (show (10536 + 6 * q) + 6 + 0 ≤ 11736 by omega) (show 1 + (1 + 0) ≤ 7 by decide) dX6_init_87 dX6_init_90 dX6_init_91 (fun ad' H locs hP1 hD1 hS1 => ?_)
        have hl1 : ∀ i, i < 1 → ly6 (37 + q + i) = ly5 i := fun i hi => by
          obtain rfl : i = 0 := by omega
          exact ly6_w hqN
        have hI1 : ∀ i, i < 1 → chI (37 + q + i) = wk0.1 i := fun i hi => by
          obtain rfl : i = 0 := by omega
          exact chI_w hqN
        have hr1 : ∀ i, i < 1 → ∀ j, rkT rk6 (37 + q + i) j = ((fun _ _ => none : Nat → Nat → Option Nat) i j).map (fun x => 37 + q + x) := fun i hi j => by
          obtain rfl : i = 0 := by omega
          unfold rkT
          rw [show 37 + q + 0 = 37 + q by omega, rk6_w q hqN]
          rfl
        have eJ := am_wl_J (cA := cA) (ad := ad) (ad' := ad') (lay := ly6) (lay' := ly5) (n := (37 + q)) (k := 1) (σ := chS (37 + q)) (X := cx chI (rkT rk6) ((37 + q) + 1) 2 q) (ck_rf _ _ _) (cx_l (m := 1) (rk6_2 q hqN) (rk_tu (rk6_uw q hqN))) (cx_r (n := (37 + q)) (m := 1) (RR := fun _ _ => none) (by omega) hl1 hI1 rfl rfl hr1 (fun i j x hx => nomatch hx))
        rw [← eJ] at hP1 hD1
        have b0 : adJ ad (37 + q) ad' 0 = ad 0 := if_pos (by omega)
        have b2 : adJ ad (37 + q) ad' 2 = ad 2 := if_pos (by omega)
        have b1 : adJ ad (37 + q) ad' (37 + q) = ad' 0 := by
          show (if (37 + q) < (37 + q) then ad (37 + q) else ad' ((37 + q) - (37 + q))) = ad' 0
          rw [if_neg (Nat.lt_irrefl _), Nat.sub_self]
        rw [← b1, ← b2]
        have ei : (Int32.ofInt (q : Int)).toNatClampNeg = q := by
          show (Int32.ofInt (q : Int)).toInt.toNat = q
          rw [ij_r rq]
          omega
        refine st_aast (i := Int32.ofInt (q : Int)) (q := q) (o := 2) (x := (37 + q)) (kd := 4) (ci2 := 4) (N := 10) C ⟨hP1, hD1, hS1⟩ (by omega) rfl ⟨Or.inl rfl, rfl⟩ (by omega) (ly6_w hqN) rfl ei (ij_in (by omega) (by omega) rq).1 (cx_s (rk6_2 q hqN) (by decide)) dX6_init_94 (fun H locs G => ?_)
        refine lv_iinc (v := Int32.ofInt ((q + 1 : Nat) : Int)) (lv' := [(1, .int (Int32.ofInt ((q + 1 : Nat) : Int))), (0, .ref (ad 0))]) hx hb dX6_init_95 hl (k := 0) rfl (by rw [show ((q + 1 : Nat) : Int) = (q : Int) + 1 by omega]; exact (Int32.ofInt_add _ _).symm) (by decide) rfl (fun ls hl => ?_)
        refine lv_goto (tgt := 73) hx hb dX6_init_98 (by decide) ?_
        have hfin := ih (q + 1) (by omega) (adJ ad (37 + q) ad') H locs ls b0 G hl
        rw [show (36 + (q + 1)) = (36 + q) + 1 + 0 by omega, show (10536 + 6 * (q + 1)) = (10536 + 6 * q) + 6 + 0 by omega] at hfin
        exact hfin
theorem ch_s {a : Nat} {Q : State → Prop} (C : mk_C p s m args meth c0 D cA 6 cX6_init 2) (hA : ∀ q, s.heap.size ≤ q → A q) (hend : ∀ (ad : Nat → Nat) (H : Heap) (locs : List Loc) (ls : Array Slot), ad 0 = a → mk_G D cA A s.heap ly6 287 (chS 287) ad H locs → lv_has ls 2 [(1, .int (Int32.ofInt ((60 : Nat) : Int))), (0, .ref a)] → W p l e rmk6 s m args below meth c0 H locs 286 11736 Q (F0 m 131 ls [])) : ∀ (f q : Nat), q + f = 60 → ∀ (ad : Nat → Nat) (H : Heap) (locs : List Loc) (ls : Array Slot), ad 0 = a → mk_G D cA A s.heap ly6 (47 + 4 * q) (chS (47 + 4 * q)) ad H locs → lv_has ls 2 [(1, .int (Int32.ofInt (q : Int))), (0, .ref a)] → W p l e rmk6 s m args below meth c0 H locs (46 + 4 * q) (10596 + 19 * q) Q (F0 m 103 ls []) := by
  have C0 := C
  obtain ⟨hx, hb, hml, hlocks, hown, hts, hin, hret, hK, hN⟩ := C0
  intro f
  induction f with
  | zero =>
      intro q hq ad H locs ls a0 G hl
      subst a0
      obtain rfl : q = 60 := by omega
      have hrow : (chS (47 + 4 * 60)).2.2 0 2 = some 3 := by
        show (if 3 < (47 + 4 * 60) then some 3 else none) = some 3
        exact if_pos (by omega)
      refine lv_iload_n hx hb dX6_init_103 rfl (lv_at hl 0 rfl) ?_
      refine lv_aload_n hx hb dX6_init_104 rfl (lv_at hl 1 rfl) ?_
      refine st_getR (o := 0) (x := 3) C G tf_6_21 rfl (by omega) rfl hrow dX6_init_105 ?_
      refine st_alen (o := 3) (k := 5) (N := 60) C G (by omega) rfl (by decide) dX6_init_108 ?_
      refine lv_icmp_ge (tgt := 131) hx hb dX6_init_109 (by decide) (fun hc => ?_) (fun hc => ?_)
      · exact hend ad H locs ls rfl G hl
      · exact absurd ((ij_le ⟨by decide, by decide⟩ ⟨by decide, by decide⟩).mpr (Int.le_refl _)) hc
  | succ f ih =>
      intro q hq ad H locs ls a0 G hl
      subst a0
      have hqN : q < 60 := by omega
      have rq : rI (q : Int) := ⟨by omega, by omega⟩
      have hrow : (chS (47 + 4 * q)).2.2 0 2 = some 3 := by
        show (if 3 < (47 + 4 * q) then some 3 else none) = some 3
        exact if_pos (by omega)
      refine lv_iload_n hx hb dX6_init_103 rfl (lv_at hl 0 rfl) ?_
      refine lv_aload_n hx hb dX6_init_104 rfl (lv_at hl 1 rfl) ?_
      refine st_getR (o := 0) (x := 3) C G tf_6_21 rfl (by omega) rfl hrow dX6_init_105 ?_
      refine st_alen (o := 3) (k := 5) (N := 60) C G (by omega) rfl (by decide) dX6_init_108 ?_
      refine lv_icmp_ge (tgt := 131) hx hb dX6_init_109 (by decide) (fun hc => ?_) (fun hc => ?_)
      · have := (ij_le ⟨by decide, by decide⟩ rq).mp hc
        omega
      · refine lv_aload_n hx hb dX6_init_112 rfl (lv_at hl 1 rfl) ?_
        refine st_getR (o := 0) (x := 3) C G tf_6_21 rfl (by omega) rfl hrow dX6_init_113 ?_
        refine lv_iload_n hx hb dX6_init_116 rfl (lv_at hl 0 rfl) ?_
        refine mk_obj (own := am_own 6) (ci := 3) hx hb hml hl.1 hown hts hK hN G.1 G.2.1 G.2.2 hA rfl cw_l63 cw_s3 cw_n3 cn_3 cY_3 (Or.inl cw_m63) ⟨by decide, by decide⟩ (show (46 + 4 * q) + 1 + 3 ≤ 286 by omega) (show (10596 + 19 * q) + 7 + 12 ≤ 11736 by omega) (show 1 + (1 + 0) ≤ 7 by decide) dX6_init_117 dX6_init_120 dX6_init_121 (fun ad' H locs hP1 hD1 hS1 => ?_)
        have eJ := am_wl_J (cA := cA) (ad := ad) (ad' := ad') (lay := ly6) (lay' := ly3) (n := (47 + 4 * q)) (k := 4) (σ := chS (47 + 4 * q)) (X := cx chI (rkT rk6) ((47 + 4 * q) + 4) 3 q) (ck_rf _ _ _) (cx_l (m := 4) (rk6_3 q hqN) (rk_tu (rk6_us q hqN))) (cx_r (n := (47 + 4 * q)) (m := 4) (RR := rkT rk3) (by omega) (fun i hi => ly6_s hqN hi) (fun i hi => chI_s hqN hi) rfl (ck_all (rkT_lt (by decide +kernel))) (fun i hi => rk_tr (rk6_s q hqN i hi)) (rkT_lt (by decide +kernel)))
        rw [← eJ] at hP1 hD1
        have b0 : adJ ad (47 + 4 * q) ad' 0 = ad 0 := if_pos (by omega)
        have b2 : adJ ad (47 + 4 * q) ad' 3 = ad 3 := if_pos (by omega)
        have b1 : adJ ad (47 + 4 * q) ad' (47 + 4 * q) = ad' 0 := by
          show (if (47 + 4 * q) < (47 + 4 * q) then ad (47 + 4 * q) else ad' ((47 + 4 * q) - (47 + 4 * q))) = ad' 0
          rw [if_neg (Nat.lt_irrefl _), Nat.sub_self]
        rw [← b1, ← b2]
        have ei : (Int32.ofInt (q : Int)).toNatClampNeg = q := by
          show (Int32.ofInt (q : Int)).toInt.toNat = q
          rw [ij_r rq]
          omega
        refine st_aast (i := Int32.ofInt (q : Int)) (q := q) (o := 3) (x := (47 + 4 * q)) (kd := 5) (ci2 := 3) (N := 60) C ⟨hP1, hD1, hS1⟩ (by omega) rfl ⟨Or.inr rfl, rfl⟩ (by omega) (ly6_s (i := 0) hqN (by decide)) rfl ei (ij_in (by omega) (by omega) rq).1 (cx_s (rk6_3 q hqN) (by decide)) dX6_init_124 (fun H locs G => ?_)
        refine lv_iinc (v := Int32.ofInt ((q + 1 : Nat) : Int)) (lv' := [(1, .int (Int32.ofInt ((q + 1 : Nat) : Int))), (0, .ref (ad 0))]) hx hb dX6_init_125 hl (k := 0) rfl (by rw [show ((q + 1 : Nat) : Int) = (q : Int) + 1 by omega]; exact (Int32.ofInt_add _ _).symm) (by decide) rfl (fun ls hl => ?_)
        refine lv_goto (tgt := 103) hx hb dX6_init_128 (by decide) ?_
        have hfin := ih (q + 1) (by omega) (adJ ad (47 + 4 * q) ad') H locs ls b0 G hl
        rw [show (46 + 4 * (q + 1)) = (46 + 4 * q) + 1 + 3 by omega, show (10596 + 19 * (q + 1)) = (10596 + 19 * q) + 7 + 12 by omega] at hfin
        exact hfin
theorem ch_zr (n : Nat) (h : (rkO rk6 n).all (fun x => match x with | some y => decide (n ≤ y) | none => true) = true) : ∀ j, (chS n).2.2 n j = none := by
  intro j
  show (match (rkO rk6 n).getD j none with | some x => if x < n then some x else none | none => none) = none
  cases hz : (rkO rk6 n).getD j none with
  | none => rfl
  | some x =>
    have hm : some x ∈ rkO rk6 n := by
      rw [List.getD_eq_getElem?_getD] at hz
      cases hy : (rkO rk6 n)[j]? with
      | none => rw [hy] at hz; cases hz
      | some y =>
        rw [hy] at hz
        have hz : y = some x := hz
        rw [← hz]
        exact List.mem_of_getElem? hy
    have := List.all_eq_true.mp h _ hm
    have t : n ≤ x := of_decide_eq_true this
    show (if x < n then some x else none) = none
    exact if_neg (by omega)
theorem ch_z2 : ∀ j, (chS 2).2.2 2 j = none := ch_zr 2 (by decide +kernel)
theorem ch_z3 : ∀ j, (chS 3).2.2 3 j = none := ch_zr 3 (by decide +kernel)
theorem cn_6 : cn_Met l D cA yX6_init cX6_init 2 5 rmk6 ly6 287 (chS 287) := by
  refine mk_met (lay := ly6) (c := 6) (idx := 3) (by decide +kernel) rfl rfl (by decide) rfl cw_o6 ⟨by decide, by decide⟩ dX6_init_0 dX6_init_1 (fun p e s m args below meth c0 a A ls C hA G hl => ?_)
  have C0 := C
  obtain ⟨hx, hb, hml, hlocks, hown, hts, hin, hret, hK, hN⟩ := C0
  have a0 : (fun _ : Nat => a) 0 = a := rfl
  have ez : z0.2 = (chS 1).2 := (congrArg Prod.snd (rkT_1 (T := rk6) (by decide +kernel))).symm
  have ew := am_wl_cong (cA := cA) (ad := fun _ => a) (lay := ly6) (n := 1) (σ := z0) (σ' := chS 1) (fun o ho => by
    obtain rfl : o = 0 := by omega
    exact ⟨rfl, congrArg (fun t => t.1 0) ez, congrArg (fun t => t.2 0) ez⟩)
  have G : mk_G D cA A s.heap ly6 1 (chS 1) (fun _ => a) s.heap [] := by
    obtain ⟨g1, g2, g3⟩ := G
    rw [ew] at g1 g2
    exact ⟨g1, g2, g3⟩
  refine st_arr (lay := ly6) (ad := (fun _ => a)) (c := 6) (i := 9) (ci := 5) (k := 0) (kd := 0) (N := 6) (n := 1) (pc := 4) (pc1 := 7) (pc2 := 12) (cells := 0) (slots := 0) (x := 6) (atype := .int) (σ := chS 1) (σ' := chS 2) C hA hl rfl G a0 (by decide) mk_ar_int rfl (by decide) rfl (by decide) rfl (Nat.le_of_ble_eq_true rfl) (Nat.le_of_ble_eq_true rfl) (Nat.le_of_ble_eq_true rfl) (ck_rf _ _ _) rfl rfl (ck_s rfl (rkT_u (by decide +kernel))) tf_6_9 rfl (mk_own6 0 (by decide)) dX6_init_4 (fun rest kk => lv_bipush (v := 6) hx hb dX6_init_5 (by decide) kk) dX6_init_7 dX6_init_9 rfl (fun ad1 H locs a0 G => ?_)
  refine st_arq (lay := ly6) (ad := ad1) (C2 := RX5) (c := 6) (i := 15) (ci := 5) (idx := 13) (k := 1) (kd := 4) (N := 10) (n := 2) (pc := 12) (cells := 1) (slots := 6) (x := 10) (v := 10) (σ := chS 2) (σ' := chS 3) C hA hl rfl G a0 (by decide) cw_l65 hN.2.2.1 ⟨Or.inl rfl, rfl⟩ rfl (by decide) rfl (Nat.le_of_ble_eq_true rfl) (Nat.le_of_ble_eq_true rfl) (Nat.le_of_ble_eq_true rfl) (ck_rf _ _ _) (ch_z2) (ck_s rfl (rkT_u (by decide +kernel))) tf_6_15 rfl (mk_own6 1 (by decide)) dX6_init_12 (by decide) dX6_init_13 dX6_init_15 dX6_init_18 (fun ad2 H locs a0 G => ?_)
  refine st_arq (lay := ly6) (ad := ad2) (C2 := RX3) (c := 6) (i := 21) (ci := 5) (idx := 19) (k := 2) (kd := 5) (N := 60) (n := 3) (pc := 21) (cells := 2) (slots := 16) (x := 60) (v := 60) (σ := chS 3) (σ' := chS 4) C hA hl rfl G a0 (by decide) cw_l63 hN.2.2.2 ⟨Or.inr rfl, rfl⟩ rfl (by decide) rfl (Nat.le_of_ble_eq_true rfl) (Nat.le_of_ble_eq_true rfl) (Nat.le_of_ble_eq_true rfl) (ck_rf _ _ _) (ch_z3) (ck_s rfl (rkT_u (by decide +kernel))) tf_6_21 rfl (mk_own6 2 (by decide)) dX6_init_21 (by decide) dX6_init_22 dX6_init_24 dX6_init_27 (fun ad3 H locs a0 G => ?_)
  refine st_obj (lay := ly6) (ad := ad3) (c := 6) (i := 28) (ci := 5) (ci2 := 1) (idx := 25) (j := 27) (k := 3) (kR := 15) (n := 4) (pc := 30) (cells := 3) (slots := 76) (σ := chS 4) (X := cx chI (rkT rk6) 19 0 3) (σ' := chS 19) C hA hl rfl G a0 (by decide) rfl cw_l61 cw_s1 cw_n1 cn_1 cY_1 (Or.inr (by decide +kernel)) ⟨by decide, by decide⟩ (Nat.le_of_ble_eq_true rfl) (Nat.le_of_ble_eq_true rfl) (ck_rf _ _ _) (cx_l (m := 15) rfl (rk_tu (by decide +kernel))) (cx_r (n := 4) (m := 15) (by decide) (by decide +kernel) chI_r rfl (ck_all (rkT_lt (by decide +kernel))) (fun i hi => rk_tr ((by decide +kernel : ∀ i, i < 15 → rkO rk6 (4 + i) = (rkO rk1 i).map (Option.map (fun x => 4 + x))) i hi)) (rkT_lt (by decide +kernel))) (cx_s (n := 4) (m := 15) rfl (by decide)) tf_6_28 rfl (mk_own6 3 (by decide)) dX6_init_30 dX6_init_31 dX6_init_34 dX6_init_35 dX6_init_38 (fun ad4 H locs a0 G => ?_)
  refine st_obj (lay := ly6) (ad := ad4) (c := 6) (i := 35) (ci := 5) (ci2 := 2) (idx := 32) (j := 34) (k := 4) (kR := 7) (n := 19) (pc := 41) (cells := 18) (slots := 6173) (σ := chS 19) (X := cx chI (rkT rk6) 26 0 4) (σ' := chS 26) C hA hl rfl G a0 (by decide) rfl cw_l62 cw_s2 cw_n2 cn_2 cY_2 (Or.inr (by decide +kernel)) ⟨by decide, by decide⟩ (Nat.le_of_ble_eq_true rfl) (Nat.le_of_ble_eq_true rfl) (ck_rf _ _ _) (cx_l (m := 7) rfl (rk_tu (by decide +kernel))) (cx_r (n := 19) (m := 7) (by decide) (by decide +kernel) chI_k rfl (ck_all (rkT_lt (by decide +kernel))) (fun i hi => rk_tr ((by decide +kernel : ∀ i, i < 7 → rkO rk6 (19 + i) = (rkO rk2 i).map (Option.map (fun x => 19 + x))) i hi)) (rkT_lt (by decide +kernel))) (cx_s (n := 19) (m := 7) rfl (by decide)) tf_6_35 rfl (mk_own6 4 (by decide)) dX6_init_41 dX6_init_42 dX6_init_45 dX6_init_46 dX6_init_49 (fun ad5 H locs a0 G => ?_)
  refine st_obj (lay := ly6) (ad := ad5) (c := 6) (i := 42) (ci := 5) (ci2 := 0) (idx := 39) (j := 41) (k := 5) (kR := 10) (n := 26) (pc := 52) (cells := 25) (slots := 6844) (σ := chS 26) (X := cx chI (rkT rk6) 36 0 5) (σ' := chS 36) C hA hl rfl G a0 (by decide) rfl cw_l60 cw_s0 cw_n0 cn_0 cY_0 (Or.inr (by decide +kernel)) ⟨by decide, by decide⟩ (Nat.le_of_ble_eq_true rfl) (Nat.le_of_ble_eq_true rfl) (ck_rf _ _ _) (cx_l (m := 10) rfl (rk_tu (by decide +kernel))) (cx_r (n := 26) (m := 10) (by decide) (by decide +kernel) chI_b rfl (ck_all (rkT_lt (by decide +kernel))) (fun i hi => rk_tr ((by decide +kernel : ∀ i, i < 10 → rkO rk6 (26 + i) = (rkO rk0 i).map (Option.map (fun x => 26 + x))) i hi)) (rkT_lt (by decide +kernel))) (cx_s (n := 26) (m := 10) rfl (by decide)) tf_6_42 rfl (mk_own6 5 (by decide)) dX6_init_52 dX6_init_53 dX6_init_56 dX6_init_57 dX6_init_60 (fun ad6 H locs a0 G => ?_)
  refine st_arr (lay := ly6) (ad := ad6) (c := 6) (i := 46) (ci := 5) (k := 6) (kd := 0) (N := 8) (n := 36) (pc := 63) (pc1 := 66) (pc2 := 71) (cells := 35) (slots := 10528) (x := 8) (atype := .int) (σ := chS 36) (σ' := chS 37) C hA hl rfl G a0 (by decide) mk_ar_int rfl (by decide) rfl (by decide) rfl (Nat.le_of_ble_eq_true rfl) (Nat.le_of_ble_eq_true rfl) (Nat.le_of_ble_eq_true rfl) (ck_rf _ _ _) rfl rfl (ck_s rfl (rkT_u (by decide +kernel))) tf_6_46 rfl (mk_own6 6 (by decide)) dX6_init_63 (fun rest kk => lv_bipush (v := 8) hx hb dX6_init_64 (by decide) kk) dX6_init_66 dX6_init_68 rfl (fun ad7 H locs a0 G => ?_)
  refine lv_iconst (v := 0) hx hb dX6_init_71 (by decide) ?_
  refine lv_istore_n (lv' := [(1, .int (Int32.ofInt ((0 : Nat) : Int))), (0, .ref a)]) hx hb dX6_init_72 rfl hl (by decide) rfl (fun ls hl => ?_)
  refine ch_w C hA (fun ad H locs ls a0 G hl => ?_) 10 0 rfl ad7 H locs ls a0 G hl
  refine lv_iconst (v := 0) hx hb dX6_init_101 (by decide) ?_
  refine lv_istore_n (lv' := [(1, .int (Int32.ofInt ((0 : Nat) : Int))), (0, .ref a)]) hx hb dX6_init_102 rfl hl (by decide) rfl (fun ls hl => ?_)
  refine ch_s C hA (fun ad H locs ls a0 G hl => ?_) 60 0 rfl ad H locs ls a0 G hl
  exact st_end C G a0 dX6_init_131
end
