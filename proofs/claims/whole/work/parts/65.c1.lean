/-! THE CLASS: values in longs -/
theorem l6_sh : ∀ n : Nat, n < 64 → (((Int32.ofInt (n : Int)).toInt64 &&& 63).toBitVec.smod 64).toNat = n := by decide +kernel
theorem l6_t {x : Int} (h : rL x) : (Int64.ofInt x).toInt = x := wL_e h
theorem lx_shr {x : Int} (h : rL x) : (Int64.ofInt x >>> ((Int32.ofInt 32).toInt64 &&& 63)).toInt = x / 4294967296 := by
  have e : (((Int32.ofInt 32).toInt64 &&& 63).toBitVec.smod 64).toNat = 32 := l6_sh 32 (by decide)
  have h1 : (Int64.ofInt x >>> ((Int32.ofInt 32).toInt64 &&& 63)).toBitVec = (Int64.ofInt x).toBitVec.sshiftRight 32 := by
    rw [Int64.toBitVec_shiftRight]
    show (Int64.ofInt x).toBitVec.sshiftRight' _ = _
    unfold BitVec.sshiftRight'
    rw [e]
  show (Int64.ofInt x >>> ((Int32.ofInt 32).toInt64 &&& 63)).toBitVec.toInt = _
  rw [h1, BitVec.toInt_sshiftRight, Int.shiftRight_eq_div_pow]
  have : (Int64.ofInt x).toBitVec.toInt = x := l6_t h
  rw [this]
  rfl
theorem l6_nat (x : Int) : (Int64.ofInt x).toBitVec.toNat = (x % 18446744073709551616).toNat := by
  have : (Int64.ofInt x).toBitVec = BitVec.ofInt 64 x := rfl
  rw [this, BitVec.toNat_ofInt]
  rfl
theorem lx_and {x : Int} (h : rL x) : (Int64.ofInt x &&& Int64.ofInt 4294967295).toInt = x % 4294967296 := by
  show (Int64.ofInt x &&& Int64.ofInt 4294967295).toBitVec.toInt = _
  rw [Int64.toBitVec_and]
  have h1 : ((Int64.ofInt x).toBitVec &&& (Int64.ofInt 4294967295).toBitVec).toNat = (x % 18446744073709551616).toNat % 4294967296 := by
    rw [BitVec.toNat_and, l6_nat]
    show (x % 18446744073709551616).toNat &&& 4294967295 = _
    exact Nat.and_two_pow_sub_one_eq_mod _ 32
  rw [BitVec.toInt_eq_toNat_of_lt (by rw [h1]; omega), h1]
  omega
theorem lx_shl {x : Int} (h : -2147483648 ≤ x ∧ x ≤ 2147483647) : (Int64.ofInt x <<< ((Int32.ofInt 32).toInt64 &&& 63)).toInt = x * 4294967296 := by
  have e : (((Int32.ofInt 32).toInt64 &&& 63).toBitVec.smod 64).toNat = 32 := l6_sh 32 (by decide)
  have h1 : (Int64.ofInt x <<< ((Int32.ofInt 32).toInt64 &&& 63)).toBitVec = (Int64.ofInt x).toBitVec <<< 32 := by
    rw [Int64.toBitVec_shiftLeft]
    show (Int64.ofInt x).toBitVec <<< (((Int32.ofInt 32).toInt64 &&& 63).toBitVec.smod 64).toNat = _
    rw [e]
  show (Int64.ofInt x <<< ((Int32.ofInt 32).toInt64 &&& 63)).toBitVec.toInt = _
  have h2 : ((Int64.ofInt x).toBitVec <<< 32).toNat = (x % 18446744073709551616).toNat * 4294967296 % 18446744073709551616 := by
    rw [BitVec.toNat_shiftLeft, l6_nat, Nat.shiftLeft_eq]
  rw [h1, BitVec.toInt_eq_toNat_cond, h2]
  split <;> omega
theorem lx_or {u lo : Int} (h : -2147483648 ≤ u ∧ u ≤ 2147483647) (hl : 0 ≤ lo ∧ lo < 4294967296) : (Int64.ofInt (u * 4294967296) ||| Int64.ofInt lo).toInt = u * 4294967296 + lo := by
  show (Int64.ofInt (u * 4294967296) ||| Int64.ofInt lo).toBitVec.toInt = _
  rw [Int64.toBitVec_or]
  have h1 : ((Int64.ofInt (u * 4294967296)).toBitVec ||| (Int64.ofInt lo).toBitVec).toNat = (u % 4294967296).toNat * 4294967296 + lo.toNat := by
    rw [BitVec.toNat_or, l6_nat, l6_nat]
    have e1 : (u * 4294967296 % 18446744073709551616).toNat = (u % 4294967296).toNat <<< 32 := by rw [Nat.shiftLeft_eq]; omega
    have e2 : (lo % 18446744073709551616).toNat = lo.toNat := by omega
    rw [e1, e2, ← Nat.shiftLeft_add_eq_or_of_lt (by omega), Nat.shiftLeft_eq]
  rw [BitVec.toInt_eq_toNat_cond, h1]
  split <;> omega
/-- a value as the class keeps it -/
def encV (v : Vl) : Int := match v with
  | none => 0
  | some none => 4294967296
  | some (some q) => q.1 * 4294967296 + q.2
theorem encV_r {v : Vl} (h : vok v) : rL (encV v) := by
  rcases v with _ | _ | q
  · exact ⟨by decide, by decide⟩
  · exact ⟨by decide, by decide⟩
  · obtain ⟨h1, h2, h3, h4, -⟩ := h
    unfold rL encV
    dsimp only
    omega
def isN (v : Vl) : Prop := match v with
  | some (some _) => True
  | _ => False
theorem enc_lo {v : Vl} (h : vok v) : encV v % 4294967296 = dnV v ∧ encV v / 4294967296 = (match v with | none => 0 | some none => 1 | some (some q) => q.1) := by
  rcases v with _ | _ | q
  · exact ⟨rfl, rfl⟩
  · exact ⟨rfl, rfl⟩
  · obtain ⟨h1, h2, h3, h4, -⟩ := h
    unfold encV dnV
    dsimp only
    omega
theorem encV_inj {a b : Vl} (ha : vok a) (hb : vok b) (h : encV a = encV b) : a = b := by
  have e1 := enc_lo ha
  have e2 := enc_lo hb
  rw [h] at e1
  rcases a with _ | _ | p
  · rcases b with _ | _ | q
    · rfl
    · exact absurd h (by decide)
    · have h3 : 1 ≤ q.2 := hb.2.2.1
      have a1 : dnV none = 0 := rfl
      have a2 : dnV (some (some q)) = q.2 := rfl
      omega
  · rcases b with _ | _ | q
    · exact absurd h (by decide)
    · rfl
    · have h3 : 1 ≤ q.2 := hb.2.2.1
      have a1 : dnV (some none) = 0 := rfl
      have a2 : dnV (some (some q)) = q.2 := rfl
      omega
  · have h3 : 1 ≤ p.2 := ha.2.2.1
    have a2 : dnV (some (some p)) = p.2 := rfl
    rcases b with _ | _ | q
    · have a1 : dnV none = 0 := rfl
      omega
    · have a1 : dnV (some none) = 0 := rfl
      omega
    · have a3 : dnV (some (some q)) = q.2 := rfl
      have e3 := e1.2
      rw [e2.2] at e3
      have e4 : q.1 = p.1 := e3
      have e5 : p.2 = q.2 := by omega
      have : p = q := Prod.ext e4.symm e5
      rw [this]
/-- a product on its way: none where it is beyond the bounds -/
abbrev WV : Type := Option Vl
def encW (w : WV) : Int := match w with
  | none => 8589934592
  | some v => encV v
def wok (w : WV) : Prop := match w with
  | none => True
  | some v => vok v
def otw (v : Vl) : WV := match v with
  | some none => none
  | v => some v
def enW (w : WV) : Vl := match w with
  | none => vX
  | some v => v
theorem encW_r {w : WV} (h : wok w) : rL (encW w) := by
  rcases w with _ | v
  · exact ⟨by decide, by decide⟩
  · exact encV_r h
theorem encW_lo {w : WV} (h : wok w) : encW w % 4294967296 = dnV (enW w) := by
  rcases w with _ | v
  · rfl
  · exact (enc_lo h).1
theorem encW_B {w : WV} (h : wok w) : encW w = 8589934592 ↔ w = none := by
  rcases w with _ | v
  · exact ⟨fun _ => rfl, fun _ => rfl⟩
  · refine ⟨fun q => ?_, fun q => by cases q⟩
    exfalso
    have h : vok v := h
    have q : encV v = 8589934592 := q
    rcases v with _ | _ | p
    · exact absurd (show (0 : Int) = 8589934592 from q) (by decide)
    · exact absurd (show (4294967296 : Int) = 8589934592 from q) (by decide)
    · have h3 : 1 ≤ p.2 := h.2.2.1
      have h4 : p.2 ≤ 1000000000 := h.2.2.2.1
      have q : p.1 * 4294967296 + p.2 = 8589934592 := q
      omega

theorem cc4_upper {D : Nat} (hD : 1 ≤ D) (σ : am_HS) (x : Int) (hx : rL x) : am_Do lc D mX4_upper σ [vL x] (qL fun z s => z = x / 4294967296 ∧ s = σ) := by
  obtain ⟨d, rfl⟩ : ∃ d, D = d + 1 := ⟨D - 1, by omega⟩
  refine am_enter rfl rfl (Nat.le_of_ble_eq_true rfl) ?_
  refine g_lload_n dX4_upper_0 rfl ?_
  refine g_bipush dX4_upper_1 (by decide) ?_
  refine g_lshr dX4_upper_3 (lx_shr hx) ?_
  refine g_lreturn dX4_upper_4 rfl ⟨_, rfl, ?_⟩
  exact ⟨rfl, rfl⟩

theorem cc4_lower {D : Nat} (hD : 1 ≤ D) (σ : am_HS) (x : Int) (hx : rL x) : am_Do lc D mX4_lower σ [vL x] (qL fun z s => z = x % 4294967296 ∧ s = σ) := by
  obtain ⟨d, rfl⟩ : ∃ d, D = d + 1 := ⟨D - 1, by omega⟩
  refine am_enter rfl rfl (Nat.le_of_ble_eq_true rfl) ?_
  refine g_lload_n dX4_lower_0 rfl ?_
  refine g_ldc2 dX4_lower_1 tj_4_7 ⟨by decide, by decide⟩ ?_
  refine g_land dX4_lower_4 (lx_and hx) ?_
  refine g_lreturn dX4_lower_5 rfl ⟨_, rfl, ?_⟩
  exact ⟨rfl, rfl⟩

theorem cc4_isNumber {D : Nat} (hD : 1 ≤ D) (σ : am_HS) (x : Int) (hx : rL x) : am_Do lc D mX4_isNumber σ [vL x] (qI fun z s => (z = 1 ∧ x % 4294967296 ≠ 0 ∨ z = 0 ∧ x % 4294967296 = 0) ∧ s = σ) := by
  obtain ⟨d, rfl⟩ : ∃ d, D = d + 1 := ⟨D - 1, by omega⟩
  refine am_enter rfl rfl (Nat.le_of_ble_eq_true rfl) ?_
  refine g_lload_n dX4_isNumber_0 rfl ?_
  refine g_ldc2 dX4_isNumber_1 tj_4_7 ⟨by decide, by decide⟩ ?_
  refine g_land dX4_isNumber_4 (lx_and hx) ?_
  refine g_lconst0 dX4_isNumber_5 ?_
  refine g_lc_eq (tgt := 14) dX4_isNumber_6 dX4_isNumber_7 (by decide) (fun c7 => ?_) (fun c7 => ?_)
  · refine g_iconst dX4_isNumber_14 ⟨by decide, by decide⟩ ?_
    refine g_ireturn dX4_isNumber_15 (Or.inr ⟨rfl, by omega⟩) ⟨_, rfl, ?_⟩
    exact ⟨by omega, rfl⟩
  · refine g_iconst dX4_isNumber_10 ⟨by decide, by decide⟩ ?_
    refine g_goto (tgt := 15) dX4_isNumber_11 (by decide) ?_
    refine g_ireturn dX4_isNumber_15 (Or.inr ⟨rfl, by omega⟩) ⟨_, rfl, ?_⟩
    exact ⟨by omega, rfl⟩

theorem cc4_whole {D : Nat} (hD : 1 ≤ D) (σ : am_HS) (n : Int) (hn : -1000000000 ≤ n ∧ n ≤ 1000000000) : am_Do lc D mX4_whole σ [vI n] (qL fun z s => z = n * 4294967296 + 1 ∧ s = σ) := by
  obtain ⟨d, rfl⟩ : ∃ d, D = d + 1 := ⟨D - 1, by omega⟩
  refine am_enter rfl rfl (Nat.le_of_ble_eq_true rfl) ?_
  refine g_iload_n dX4_whole_0 rfl ?_
  refine g_i2l dX4_whole_1 ?_
  refine g_bipush dX4_whole_2 (by decide) ?_
  refine g_lshl dX4_whole_4 (lx_shl ⟨by omega, by omega⟩) ?_
  refine g_lconst1 dX4_whole_5 ?_
  refine g_lor dX4_whole_6 (lx_or ⟨by omega, by omega⟩ ⟨by decide, by decide⟩) ?_
  refine g_lreturn dX4_whole_7 rfl ⟨_, rfl, ?_⟩
  exact ⟨rfl, rfl⟩

