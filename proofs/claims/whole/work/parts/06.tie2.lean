/-! THE TABLES' WORDS -/
/-- the words that a callee may be given -/
def am_tb : List Cond := lw_tbl.filter goodWord
theorem am_tb_in {w : Cond} (h : w ∈ lw_tbl) (hg : goodWord w = true) : w ∈ am_tb := List.mem_filter.mpr ⟨h, hg⟩
theorem am_inp {big ws : List Cond} (ps : List Nat) (hp : ws = ps.filterMap (fun i => big[i]?)) : ∀ w ∈ ws, w ∈ big := by
  intro w hw
  rw [hp] at hw
  obtain ⟨i, -, hi⟩ := List.mem_filterMap.mp hw
  exact List.mem_of_getElem? hi
theorem am_goodIn {ws : List Cond} (h : ∀ w ∈ ws, w ∈ am_tb) : GoodIn am_tb ws := fun w hw => ⟨h w hw, good_of_word (List.mem_filter.mp (h w hw)).2⟩
set_option maxRecDepth 100000 in
theorem am_uX0 : ∀ w ∈ u_ws RX0 TX0 12, w ∈ lw_tbl := am_inp [147, 149, 151, 153, 155, 157, 159, 161, 163, 165, 167, 169] (by decide +kernel)
set_option maxRecDepth 100000 in
theorem am_uX1 : ∀ w ∈ u_ws RX1 TX1 10, w ∈ lw_tbl := am_inp [186, 188, 190, 192, 194, 196, 198, 200, 202, 204] (by decide +kernel)
set_option maxRecDepth 100000 in
theorem am_uX2 : ∀ w ∈ u_ws RX2 TX2 9, w ∈ lw_tbl := am_inp [224, 226, 228, 230, 232, 234, 236, 238, 240] (by decide +kernel)
set_option maxRecDepth 100000 in
theorem am_uX3 : ∀ w ∈ u_ws RX3 TX3 7, w ∈ lw_tbl := am_inp [293, 295, 297, 299, 301, 303, 305] (by decide +kernel)
set_option maxRecDepth 100000 in
theorem am_uX5 : ∀ w ∈ u_ws RX5 TX5 6, w ∈ lw_tbl := am_inp [261, 263, 265, 267, 269, 271] (by decide +kernel)
set_option maxRecDepth 100000 in
theorem am_uX6 : ∀ w ∈ u_ws RX6 TX6 14, w ∈ lw_tbl := am_inp [322, 324, 326, 328, 330, 332, 334, 336, 338, 340, 342, 344, 346, 348] (by decide +kernel)
set_option maxRecDepth 100000 in
theorem am_uX7 : ∀ w ∈ u_ws RX7 TX7 67, w ∈ lw_tbl := am_inp [925, 927, 929, 931, 933, 935, 937, 939, 941, 943, 945, 947, 949, 951, 953, 955, 957, 959, 961, 963, 965, 967, 969, 971, 973, 975, 977, 979, 981, 983, 985, 987, 989, 991, 993, 995, 997, 999, 1001, 1003, 1005, 1007, 1009, 1011, 1013, 1015, 1017, 1019, 1021, 1023, 1025, 1027, 1029, 1031, 1033, 1035, 1037, 1039, 1041, 1043, 1045, 1047, 1049, 1051, 1053, 1055, 1057] (by decide +kernel)
def am_tyf (ci : Nat) : Nat → FieldType := match ci with
  | 0 => tyX0
  | 1 => tyX1
  | 2 => tyX2
  | 3 => tyX3
  | 4 => tyX5
  | 5 => tyX6
  | _ => tyX7
def am_tyok (c : Nat) (t : FieldType) : Bool := match c, t with
  | 0, .int => true
  | 1, .boolean => true
  | 2, .long => true
  | 3, .object _ => true
  | 3, .array _ => true
  | _, _ => false
def am_Cok (ci : Nat) (q : vw_C) : Prop := (∀ w ∈ u_ws q.1 q.2.1 q.2.2, w ∈ lw_tbl) ∧ q.2.2 = am_nf ci ∧ (∀ k, k < q.2.2 → parseFieldDescriptor (q.2.1 k).2.2.1 = some (am_tyf ci k)) ∧ (∀ a, a < q.2.2 → ∀ b, b < q.2.2 → a ≠ b → (q.2.1 a).2.1 ≠ (q.2.1 b).2.1) ∧ (∀ k, k < q.2.2 → (q.2.1 k).2.2.2 = am_ffin ci k) ∧ ∀ k, k < q.2.2 → am_tyok (am_fty ci k) (am_tyf ci k) = true
set_option maxRecDepth 100000 in
theorem am_C0 : am_Cok 0 (RX0, TX0, 12) := ⟨am_uX0, rfl, tyX0_ok, nmX0, by decide +kernel, by decide +kernel⟩
set_option maxRecDepth 100000 in
theorem am_C1 : am_Cok 1 (RX1, TX1, 10) := ⟨am_uX1, rfl, tyX1_ok, nmX1, by decide +kernel, by decide +kernel⟩
set_option maxRecDepth 100000 in
theorem am_C2 : am_Cok 2 (RX2, TX2, 9) := ⟨am_uX2, rfl, tyX2_ok, nmX2, by decide +kernel, by decide +kernel⟩
set_option maxRecDepth 100000 in
theorem am_C3 : am_Cok 3 (RX3, TX3, 7) := ⟨am_uX3, rfl, tyX3_ok, nmX3, by decide +kernel, by decide +kernel⟩
set_option maxRecDepth 100000 in
theorem am_C4 : am_Cok 4 (RX5, TX5, 6) := ⟨am_uX5, rfl, tyX5_ok, nmX5, by decide +kernel, by decide +kernel⟩
set_option maxRecDepth 100000 in
theorem am_C5 : am_Cok 5 (RX6, TX6, 14) := ⟨am_uX6, rfl, tyX6_ok, nmX6, by decide +kernel, by decide +kernel⟩
set_option maxRecDepth 100000 in
theorem am_C6 : am_Cok 6 (RX7, TX7, 67) := ⟨am_uX7, rfl, tyX7_ok, nmX7, by decide +kernel, by decide +kernel⟩
theorem am_Call {ci : Nat} {q : vw_C} (h : vwCl[ci]? = some q) : am_Cok ci q := by
  match ci, h with
  | 0, h => cases h; exact am_C0
  | 1, h => cases h; exact am_C1
  | 2, h => cases h; exact am_C2
  | 3, h => cases h; exact am_C3
  | 4, h => cases h; exact am_C4
  | 5, h => cases h; exact am_C5
  | 6, h => cases h; exact am_C6
  | k + 7, h => simp [vwCl] at h
theorem am_lk_mem {α : Type} {l : List (Nat × Nat × α)} {c i : Nat} {x : α} (h : am_lk l c i = some x) : (c, i, x) ∈ l := by
  induction l with
  | nil => cases h
  | cons a t ih =>
    obtain ⟨a1, a2, a3⟩ := a
    unfold am_lk at h
    split at h
    · rename_i q
      cases h
      rw [q.1, q.2]
      exact List.mem_cons_self
    · exact List.mem_cons_of_mem _ (ih h)
def am_own (c : Nat) : String := am_CL.getD c ""
def am_Fok (q : Nat × Nat × Nat × Nat × Nat) : Bool := match vwCl[q.2.2.1]? with
  | some r => decide (q.2.2.2.1 < r.2.2) && decide (lw_tbl[q.2.2.2.2]? = some (Cond.fieldLink (am_own q.1) q.2.1 (r.2.1 q.2.2.2.1).1 (r.2.1 q.2.2.2.1).2.1 (r.2.1 q.2.2.2.1).2.2.1))
  | none => false
set_option maxRecDepth 100000 in
theorem am_FLok : am_FL.all am_Fok = true := by decide +kernel
theorem am_F {c i ci k : Nat} (h : am_T0.1 c i = some (ci, k)) : ∃ C T N, vwCl[ci]? = some (C, T, N) ∧ k < N ∧ Cond.fieldLink (am_own c) i (T k).1 (T k).2.1 (T k).2.2.1 ∈ lw_tbl := by
  have h1 : (am_lk am_FL c i).map (fun q => (q.1, q.2.1)) = some (ci, k) := h
  cases hq : am_lk am_FL c i with
  | none => rw [hq] at h1; cases h1
  | some q =>
    rw [hq] at h1
    obtain ⟨q1, q2, q3⟩ := q
    cases h1
    have h2 := List.all_eq_true.mp am_FLok _ (am_lk_mem hq)
    unfold am_Fok at h2
    dsimp only at h2
    split at h2
    · rename_i r hr
      simp only [Bool.and_eq_true, decide_eq_true_eq] at h2
      exact ⟨r.1, r.2.1, r.2.2, hr, h2.1, List.mem_of_getElem? h2.2⟩
    · cases h2
def am_Y (mi : Nat) : MethodName := am_YL.getD mi ⟨"", "", ""⟩
def am_ret (mi : Nat) : Option FieldType := am_RL.getD mi none
def am_W (mi : Nat) : List Cond := .code (am_Y mi) (am_M0 mi).2.1 (am_M0 mi).2.2.1 (am_ret mi) :: am_tb
def am_isRef (t : FieldType) : Bool := match t with
  | .object _ => true
  | .array _ => true
  | _ => false
def am_rtok (c : Nat) (t : Option FieldType) : Bool := match c, t with
  | 0, none => true
  | 1, some .int => true
  | 2, some .boolean => true
  | 3, some .long => true
  | 4, some t => am_isRef t
  | _, _ => false
def am_Mok (mi : Nat) : Bool := let w := am_WL.getD mi (0, 0, 0, 0); let M := am_M0 mi; let y := am_Y mi
  decide (lw_tbl[w.2.1]? = some (if M.2.2.2.2.2.1 then Cond.static y else Cond.instanceMethod y)) && (M.2.2.2.2.2.1 || (decide (lw_tbl[w.2.2.1]? = some (Cond.selects y.cls y y)) && decide ((vwCl[M.2.2.2.2.2.2]?).map (fun q => q.1) = some y.cls))) && decide (lw_tbl[w.2.2.2]? = some (Cond.initialized y.cls)) && decide (y.cls ≠ "java/lang/invoke/MethodHandle") && decide (y.cls ≠ "java/lang/invoke/VarHandle") && decide ((parseMethodDescriptor y.desc).map (fun d => d.parameters.length) = some M.2.2.2.1) && am_rtok M.2.2.2.2.1 (am_ret mi) && plainName y.cls && decide (M.2.2.1 ≤ 20) && decide (y.cls = am_own M.1)
set_option maxRecDepth 100000 in
theorem am_MLok : (List.range am_ML.length).all am_Mok = true := by decide +kernel
def am_cdW (mi : Nat) : Cond := Cond.code (am_Y mi) (am_M0 mi).2.1 (am_M0 mi).2.2.1 (am_ret mi)
set_option maxRecDepth 100000 in
theorem am_MCok : (List.range am_ML.length).map am_cdW = am_WL.filterMap (fun w => lw_tbl[w.1]?) := rfl
def am_Kok (q : Nat × Nat × Nat × Nat × Nat) : Bool := decide (q.2.2.1 < am_ML.length) && decide (lw_tbl[q.2.2.2.1]? = some (if q.2.2.2.2 = 0 then Cond.methodLink (am_own q.1) q.2.1 (am_Y q.2.2.1) else Cond.methodLinkNest (am_own q.1) q.2.1 (am_Y q.2.2.1) "CourseHouse"))
set_option maxRecDepth 100000 in
theorem am_KLok : am_KL.all am_Kok = true := by decide +kernel
def am_Bok (q : Nat × Nat × Nat × Nat) : Bool := decide (lw_tbl[q.2.2.2]? = some (Cond.methodLink (am_own q.1) q.2.1 (if q.2.2.1 = 1 then Lib.Math.max.name else if q.2.2.1 = 2 then Lib.Math.min.name else if q.2.2.1 = 3 then Lib.MathLoose.max_long.x else Lib.MathLoose.abs_long.x))) && decide (1 ≤ q.2.2.1 ∧ q.2.2.1 ≤ 4)
set_option maxRecDepth 100000 in
theorem am_BLok : am_BL.all am_Bok = true := by decide +kernel
def am_Iok (q : Nat × Nat × Int × Nat) : Bool := decide (lw_tbl[q.2.2.2]? = some (Cond.constant (am_own q.1) q.2.1 (Int32.ofInt q.2.2.1)))
set_option maxRecDepth 100000 in
theorem am_ILok : am_IL.all am_Iok = true := by decide +kernel
def am_Jok (q : Nat × Nat × Int × Nat) : Bool := decide (lw_tbl[q.2.2.2]? = some (Cond.constantLong (am_own q.1) q.2.1 (Int64.ofInt q.2.2.1)))
set_option maxRecDepth 100000 in
theorem am_JLok : am_JL.all am_Jok = true := by decide +kernel
set_option maxRecDepth 100000 in
theorem am_b1 : Cond.static Lib.Math.max.name ∈ lw_tbl ∧ Cond.code Lib.Math.max.name Lib.Math.max.code 2 (some .int) ∈ lw_tbl := ⟨List.mem_of_getElem? (i := 566) (by decide +kernel), List.mem_of_getElem? (i := 567) (by decide +kernel)⟩
set_option maxRecDepth 100000 in
theorem am_b2 : Cond.static Lib.Math.min.name ∈ lw_tbl ∧ Cond.code Lib.Math.min.name Lib.Math.min.code 2 (some .int) ∈ lw_tbl := ⟨List.mem_of_getElem? (i := 649) (by decide +kernel), List.mem_of_getElem? (i := 650) (by decide +kernel)⟩
set_option maxRecDepth 100000 in
theorem am_b3 : Cond.static Lib.MathLoose.max_long.x ∈ lw_tbl ∧ Cond.code Lib.MathLoose.max_long.x Lib.MathLoose.max_long.code 4 (some .long) ∈ lw_tbl := ⟨List.mem_of_getElem? (i := 1252) (by decide +kernel), List.mem_of_getElem? (i := 1253) (by decide +kernel)⟩
set_option maxRecDepth 100000 in
theorem am_b4 : Cond.static Lib.MathLoose.abs_long.x ∈ lw_tbl ∧ Cond.code Lib.MathLoose.abs_long.x Lib.MathLoose.abs_long.code 2 (some .long) ∈ lw_tbl := ⟨List.mem_of_getElem? (i := 1221) (by decide +kernel), List.mem_of_getElem? (i := 1222) (by decide +kernel)⟩
set_option maxRecDepth 100000 in
theorem am_bi : Cond.initialized "java/lang/Math" ∈ lw_tbl := List.mem_of_getElem? (i := 99) (by decide +kernel)
