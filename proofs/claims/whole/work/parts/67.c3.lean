/-! THE CLASS: values put together -/
theorem enc_O {v : Vl} {x : Int} (h : vok v) (hx : x = encV v) (h0 : x = 0) : v = vO := encV_inj h (b := vO) trivial (by rw [← hx, h0]; rfl)
theorem enc_X {v : Vl} {x : Int} (h : vok v) (hx : x = encV v) (h0 : x = 4294967296) : v = vX := encV_inj h (b := vX) trivial (by rw [← hx, h0]; rfl)
theorem enc_n {v : Vl} {x : Int} (h : vok v) (hx : x = encV v) (h0 : x % 4294967296 ≠ 0) : ∃ u d, v = vN u d ∧ -1000000000 ≤ u ∧ u ≤ 1000000000 ∧ 1 ≤ d ∧ d ≤ 1000000000 ∧ x / 4294967296 = u ∧ x % 4294967296 = d := by
  rcases v with _ | _ | p
  · exact absurd (show x % 4294967296 = 0 by rw [hx]; rfl) h0
  · exact absurd (show x % 4294967296 = 0 by rw [hx]; rfl) h0
  · obtain ⟨h1, h2, h3, h4, -⟩ := id h
    have hx : x = p.1 * 4294967296 + p.2 := hx
    exact ⟨p.1, p.2, rfl, h1, h2, h3, h4, by omega, by omega⟩
theorem enc_nn {v : Vl} {x : Int} (h : vok v) (hx : x = encV v) (h0 : x % 4294967296 = 0) : v = vO ∨ v = vX := by
  rcases v with _ | _ | p
  · exact Or.inl rfl
  · exact Or.inr rfl
  · obtain ⟨h1, h2, h3, h4, -⟩ := id h
    have hx : x = p.1 * 4294967296 + p.2 := hx
    omega
theorem enc_m {v : Vl} {x : Int} (h : vok v) (hx : x = encV v) (h0 : x ≠ 0) (h1 : x ≠ 4294967296) : x % 4294967296 ≠ 0 := by
  intro q
  rcases enc_nn h hx q with e | e
  · rw [e] at hx; exact h0 hx
  · rw [e] at hx; exact h1 hx
def plV (a b : Vl) : Vl := match a with
  | some none => vX
  | none => b
  | some (some p) => (match b with
    | some none => vX
    | none => some (some p)
    | some (some q) => nrm (p.1 * q.2 + q.1 * p.2) (p.2 * q.2))
theorem plV_ok {a b : Vl} (ha : vok a) (hb : vok b) : vok (plV a b) := by
  unfold plV
  split
  · trivial
  · exact hb
  · split
    · trivial
    · exact ha
    · refine nrm_ok ?_
      have := mul_p (N := 1000000000) ⟨ha.2.2.1, ha.2.2.2.1⟩ ⟨hb.2.2.1, hb.2.2.2.1⟩
      exact this.1
theorem plV_X (a : Vl) : plV a vX = vX := by rcases a with _ | _ | p <;> rfl
theorem plV_O (a : Vl) : plV a vO = a := by rcases a with _ | _ | p <;> rfl
def ngV (v : Vl) : Vl := match v with
  | some (some q) => vN (-q.1) q.2
  | v => v
theorem ngV_ok {v : Vl} (h : vok v) : vok (ngV v) := by
  rcases v with _ | _ | q
  · trivial
  · trivial
  · obtain ⟨h1, h2, h3, h4, h5⟩ := h
    refine ⟨by show -1000000000 ≤ -q.1; omega, by show -q.1 ≤ 1000000000; omega, h3, h4, ?_⟩
    show Int.gcd (-q.1) q.2 = 1
    rw [Int.neg_gcd]
    exact h5
def tmW (x : WV) (y : Vl) : WV := match y with
  | some none => some vX
  | none => (match x with | some (some none) => some vX | _ => some vO)
  | some (some q) => (match x with
    | none => none
    | some (some (some p)) => otw (nrm (p.1 * q.1) (p.2 * q.2))
    | x => x)
def ovW (x : WV) (n : Int) : WV := match x with
  | some (some (some p)) => otw (nrm p.1 (p.2 * n))
  | x => x
theorem otw_ok {v : Vl} (h : vok v) : wok (otw v) := by
  rcases v with _ | _ | q
  · exact h
  · trivial
  · exact h
theorem tmW_ok {x : WV} {y : Vl} (hx : wok x) (hy : vok y) : wok (tmW x y) := by
  rcases y with _ | _ | q
  · unfold tmW
    dsimp only
    split <;> trivial
  · trivial
  · rcases x with _ | _ | _ | p
    · trivial
    · exact hx
    · exact hx
    · refine otw_ok (nrm_ok ?_)
      have hx : vok (some (some p)) := hx
      exact (mul_p (N := 1000000000) ⟨hx.2.2.1, hx.2.2.2.1⟩ ⟨hy.2.2.1, hy.2.2.2.1⟩).1
theorem ovW_ok {x : WV} {n : Int} (hx : wok x) (hn : 1 ≤ n) : wok (ovW x n) := by
  rcases x with _ | _ | _ | p
  · trivial
  · exact hx
  · exact hx
  · refine otw_ok (nrm_ok ?_)
    have hx : vok (some (some p)) := hx
    have h1 : 1 * 1 ≤ p.2 * n := Int.mul_le_mul hx.2.2.1 hn (by omega) (by have := hx.2.2.1; omega)
    omega
theorem enW_ok {x : WV} (h : wok x) : vok (enW x) := by
  rcases x with _ | v
  · trivial
  · exact h
def cpV (v : Vl) (n : Int) : Vl := match v with
  | some (some q) => if n * q.2 ≤ q.1 then vN n 1 else v
  | v => v
def psV (v : Vl) (n : Int) : Vl := match v with
  | some (some q) => vN (if n * q.2 ≤ q.1 then 1 else 0) 1
  | v => v

theorem cc4_plus {D : Nat} (hD : 2 ≤ D) (σ : am_HS) (x y : Int) {a b : Vl} (ha : vok a) (hb : vok b) (hx : x = encV a) (hy : y = encV b) : am_Do lc D mX4_plus σ [vL x, vL y] (qL fun z s => z = encV (plV a b) ∧ s = σ) := by
  have hxr : rL x := by rw [hx]; exact encV_r ha
  have hyr : rL y := by rw [hy]; exact encV_r hb
  obtain ⟨d, rfl⟩ : ∃ d, D = d + 1 := ⟨D - 1, by omega⟩
  refine am_enter rfl rfl (Nat.le_of_ble_eq_true rfl) ?_
  refine g_lload_n dX4_plus_0 rfl ?_
  refine g_ldc2 dX4_plus_1 tj_4_11 ⟨by decide, by decide⟩ ?_
  refine g_lc_eq (tgt := 16) dX4_plus_4 dX4_plus_5 (by decide) (fun c5 => ?_) (fun c5 => ?_)
  · refine g_ldc2 dX4_plus_16 tj_4_11 ⟨by decide, by decide⟩ ?_
    refine g_lreturn dX4_plus_19 rfl ⟨_, rfl, ?_⟩
    refine ⟨?_, rfl⟩
    first
      | (rw [enc_X ha hx (by omega)]; rfl)
      | (rw [enc_X hb hy (by omega), plV_X]; rfl)
  · refine g_lload_n dX4_plus_8 rfl ?_
    refine g_ldc2 dX4_plus_9 tj_4_11 ⟨by decide, by decide⟩ ?_
    refine g_lc_ne (tgt := 20) dX4_plus_12 dX4_plus_13 (by decide) (fun c13 => ?_) (fun c13 => ?_)
    · refine g_lload_n dX4_plus_20 rfl ?_
      refine g_lconst0 dX4_plus_21 ?_
      refine g_lc_ne (tgt := 28) dX4_plus_22 dX4_plus_23 (by decide) (fun c23 => ?_) (fun c23 => ?_)
      · refine g_lload_n dX4_plus_28 rfl ?_
        refine g_lconst0 dX4_plus_29 ?_
        refine g_lc_ne (tgt := 36) dX4_plus_30 dX4_plus_31 (by decide) (fun c31 => ?_) (fun c31 => ?_)
        · obtain ⟨u1, d1, rfl, b1, b2, b3, b4, b5, b6⟩ := enc_n ha hx (enc_m ha hx (by omega) (by omega))
          obtain ⟨u2, d2, rfl, g1, g2, g3, g4, g5, g6⟩ := enc_n hb hy (enc_m hb hy (by omega) (by omega))
          have m1 := mul_b2 (M := 1000000000) (N := 1000000000) (x := u1) (y := d2) ⟨by omega, by omega⟩ ⟨by omega, by omega⟩
          have m2 := mul_b2 (M := 1000000000) (N := 1000000000) (x := u2) (y := d1) ⟨by omega, by omega⟩ ⟨by omega, by omega⟩
          have m3 := mul_p (N := 1000000000) (x := d1) (y := d2) ⟨by omega, by omega⟩ ⟨by omega, by omega⟩
          refine g_lload_n dX4_plus_36 rfl ?_
          refine g_callsL dX4_plus_37 tm_4_17 rfl ⟨Nat.le_of_ble_eq_true rfl, rfl, rfl⟩ (Nat.le_of_ble_eq_true rfl) (cc4_upper (by omega) σ _ hxr) (fun z37 s37 h37 => ?_)
          obtain ⟨rfl, e37⟩ := h37
          obtain rfl := e37.symm
          rw [b5]
          refine g_lload_n dX4_plus_40 rfl ?_
          refine g_callsL dX4_plus_41 tm_4_21 rfl ⟨Nat.le_of_ble_eq_true rfl, rfl, rfl⟩ (Nat.le_of_ble_eq_true rfl) (cc4_lower (by omega) σ _ hyr) (fun z41 s41 h41 => ?_)
          obtain ⟨rfl, e41⟩ := h41
          obtain rfl := e41.symm
          rw [g6]
          refine g_lmul dX4_plus_44 rfl ⟨by omega, by omega⟩ ?_
          refine g_lload_n dX4_plus_45 rfl ?_
          refine g_callsL dX4_plus_46 tm_4_17 rfl ⟨Nat.le_of_ble_eq_true rfl, rfl, rfl⟩ (Nat.le_of_ble_eq_true rfl) (cc4_upper (by omega) σ _ hyr) (fun z46 s46 h46 => ?_)
          obtain ⟨rfl, e46⟩ := h46
          obtain rfl := e46.symm
          rw [g5]
          refine g_lload_n dX4_plus_49 rfl ?_
          refine g_callsL dX4_plus_50 tm_4_21 rfl ⟨Nat.le_of_ble_eq_true rfl, rfl, rfl⟩ (Nat.le_of_ble_eq_true rfl) (cc4_lower (by omega) σ _ hxr) (fun z50 s50 h50 => ?_)
          obtain ⟨rfl, e50⟩ := h50
          obtain rfl := e50.symm
          rw [b6]
          refine g_lmul dX4_plus_53 rfl ⟨by omega, by omega⟩ ?_
          refine g_ladd dX4_plus_54 rfl ⟨by omega, by omega⟩ ?_
          refine g_lload_n dX4_plus_55 rfl ?_
          refine g_callsL dX4_plus_56 tm_4_21 rfl ⟨Nat.le_of_ble_eq_true rfl, rfl, rfl⟩ (Nat.le_of_ble_eq_true rfl) (cc4_lower (by omega) σ _ hxr) (fun z56 s56 h56 => ?_)
          obtain ⟨rfl, e56⟩ := h56
          obtain rfl := e56.symm
          rw [b6]
          refine g_lload_n dX4_plus_59 rfl ?_
          refine g_callsL dX4_plus_60 tm_4_21 rfl ⟨Nat.le_of_ble_eq_true rfl, rfl, rfl⟩ (Nat.le_of_ble_eq_true rfl) (cc4_lower (by omega) σ _ hyr) (fun z60 s60 h60 => ?_)
          obtain ⟨rfl, e60⟩ := h60
          obtain rfl := e60.symm
          rw [g6]
          refine g_lmul dX4_plus_63 rfl ⟨by omega, by omega⟩ ?_
          refine g_callsL dX4_plus_64 tm_4_24 rfl ⟨Nat.le_of_ble_eq_true rfl, rfl, rfl⟩ (Nat.le_of_ble_eq_true rfl) (cc4_of (by omega) σ _ _ ⟨by omega, by omega⟩ ⟨by omega, by omega⟩) (fun z64 s64 h64 => ?_)
          obtain ⟨rfl, e64⟩ := h64
          obtain rfl := e64.symm
          refine g_lreturn dX4_plus_67 rfl ⟨_, rfl, ?_⟩
          exact ⟨rfl, rfl⟩
        · refine g_lload_n dX4_plus_34 rfl ?_
          refine g_lreturn dX4_plus_35 rfl ⟨_, rfl, ?_⟩
          refine ⟨?_, rfl⟩
          rw [enc_O hb hy (by omega), plV_O]
          exact hx
      · refine g_lload_n dX4_plus_26 rfl ?_
        refine g_lreturn dX4_plus_27 rfl ⟨_, rfl, ?_⟩
        refine ⟨?_, rfl⟩
        rw [enc_O ha hx (by omega)]
        exact hy
    · refine g_ldc2 dX4_plus_16 tj_4_11 ⟨by decide, by decide⟩ ?_
      refine g_lreturn dX4_plus_19 rfl ⟨_, rfl, ?_⟩
      refine ⟨?_, rfl⟩
      first
        | (rw [enc_X ha hx (by omega)]; rfl)
        | (rw [enc_X hb hy (by omega), plV_X]; rfl)

theorem cc4_negated {D : Nat} (hD : 2 ≤ D) (σ : am_HS) (x : Int) {a : Vl} (ha : vok a) (hx : x = encV a) : am_Do lc D mX4_negated σ [vL x] (qL fun z s => z = encV (ngV a) ∧ s = σ) := by
  have hxr : rL x := by rw [hx]; exact encV_r ha
  obtain ⟨d, rfl⟩ : ∃ d, D = d + 1 := ⟨D - 1, by omega⟩
  refine am_enter rfl rfl (Nat.le_of_ble_eq_true rfl) ?_
  refine g_lload_n dX4_negated_0 rfl ?_
  refine g_callsI dX4_negated_1 tm_4_28 rfl ⟨Nat.le_of_ble_eq_true rfl, rfl, rfl⟩ (Nat.le_of_ble_eq_true rfl) (cc4_isNumber (by omega) σ _ hxr) (fun z1 s1 h1 => ?_)
  obtain ⟨h1, e1⟩ := h1
  obtain rfl := e1.symm
  refine g_if_eq (tgt := 23) dX4_negated_4 (by decide) (fun c4 => ?_) (fun c4 => ?_)
  · refine g_lload_n dX4_negated_23 rfl ?_
    refine g_lreturn dX4_negated_24 rfl ⟨_, rfl, ?_⟩
    first
      | exact ⟨rfl, rfl⟩
      | (refine ⟨?_, rfl⟩
         rcases enc_nn ha hx (by omega) with e | e
         · subst e; exact hx
         · subst e; exact hx)
  · obtain ⟨u1, d1, rfl, b1, b2, b3, b4, b5, b6⟩ := enc_n ha hx (by omega)
    refine g_lload_n dX4_negated_7 rfl ?_
    refine g_callsL dX4_negated_8 tm_4_17 rfl ⟨Nat.le_of_ble_eq_true rfl, rfl, rfl⟩ (Nat.le_of_ble_eq_true rfl) (cc4_upper (by omega) σ _ hxr) (fun z8 s8 h8 => ?_)
    obtain ⟨rfl, e8⟩ := h8
    obtain rfl := e8.symm
    rw [b5]
    refine g_lneg dX4_negated_11 rfl ⟨by omega, by omega⟩ ?_
    refine g_bipush dX4_negated_12 (by decide) ?_
    refine g_lshl dX4_negated_14 (lx_shl ⟨by omega, by omega⟩) ?_
    refine g_lload_n dX4_negated_15 rfl ?_
    refine g_callsL dX4_negated_16 tm_4_21 rfl ⟨Nat.le_of_ble_eq_true rfl, rfl, rfl⟩ (Nat.le_of_ble_eq_true rfl) (cc4_lower (by omega) σ _ hxr) (fun z16 s16 h16 => ?_)
    obtain ⟨rfl, e16⟩ := h16
    obtain rfl := e16.symm
    rw [b6]
    refine g_lor dX4_negated_19 (lx_or ⟨by omega, by omega⟩ ⟨by omega, by omega⟩) ?_
    refine g_goto (tgt := 24) dX4_negated_20 (by decide) ?_
    refine g_lreturn dX4_negated_24 rfl ⟨_, rfl, ?_⟩
    first
      | exact ⟨rfl, rfl⟩
      | (refine ⟨?_, rfl⟩
         rcases enc_nn ha hx (by omega) with e | e
         · subst e; exact hx
         · subst e; exact hx)

theorem cc4_onTheWay {D : Nat} (hD : 1 ≤ D) (σ : am_HS) (x : Int) {a : Vl} (ha : vok a) (hx : x = encV a) (hn : a ≠ vO) : am_Do lc D mX4_onTheWay σ [vL x] (qL fun z s => z = encW (otw a) ∧ s = σ) := by
  obtain ⟨d, rfl⟩ : ∃ d, D = d + 1 := ⟨D - 1, by omega⟩
  refine am_enter rfl rfl (Nat.le_of_ble_eq_true rfl) ?_
  refine g_lload_n dX4_onTheWay_0 rfl ?_
  refine g_ldc2 dX4_onTheWay_1 tj_4_11 ⟨by decide, by decide⟩ ?_
  refine g_lc_ne (tgt := 14) dX4_onTheWay_4 dX4_onTheWay_5 (by decide) (fun c5 => ?_) (fun c5 => ?_)
  · refine g_lload_n dX4_onTheWay_14 rfl ?_
    refine g_lreturn dX4_onTheWay_15 rfl ⟨_, rfl, ?_⟩
    refine ⟨?_, rfl⟩
    first
      | (rw [enc_X ha hx (by omega)]; rfl)
      | (rcases a with _ | _ | q
         · exact absurd rfl hn
         · have hx : x = 4294967296 := hx
           omega
         · exact hx)
  · refine g_ldc2 dX4_onTheWay_8 tj_4_32 ⟨by decide, by decide⟩ ?_
    refine g_goto (tgt := 15) dX4_onTheWay_11 (by decide) ?_
    refine g_lreturn dX4_onTheWay_15 rfl ⟨_, rfl, ?_⟩
    refine ⟨?_, rfl⟩
    first
      | (rw [enc_X ha hx (by omega)]; rfl)
      | (rcases a with _ | _ | q
         · exact absurd rfl hn
         · have hx : x = 4294967296 := hx
           omega
         · exact hx)

theorem cc4_ended {D : Nat} (hD : 1 ≤ D) (σ : am_HS) (x : Int) {w : WV} (hw : wok w) (hx : x = encW w) : am_Do lc D mX4_ended σ [vL x] (qL fun z s => z = encV (enW w) ∧ s = σ) := by
  have hB := encW_B hw
  rw [← hx] at hB
  obtain ⟨d, rfl⟩ : ∃ d, D = d + 1 := ⟨D - 1, by omega⟩
  refine am_enter rfl rfl (Nat.le_of_ble_eq_true rfl) ?_
  refine g_lload_n dX4_ended_0 rfl ?_
  refine g_ldc2 dX4_ended_1 tj_4_32 ⟨by decide, by decide⟩ ?_
  refine g_lc_ne (tgt := 14) dX4_ended_4 dX4_ended_5 (by decide) (fun c5 => ?_) (fun c5 => ?_)
  · refine g_lload_n dX4_ended_14 rfl ?_
    refine g_lreturn dX4_ended_15 rfl ⟨_, rfl, ?_⟩
    refine ⟨?_, rfl⟩
    first
      | (rw [hB.mp (by omega)]; rfl)
      | (rcases w with _ | v
         · exact absurd (hB.mpr rfl) (by omega)
         · exact hx)
  · refine g_ldc2 dX4_ended_8 tj_4_11 ⟨by decide, by decide⟩ ?_
    refine g_goto (tgt := 15) dX4_ended_11 (by decide) ?_
    refine g_lreturn dX4_ended_15 rfl ⟨_, rfl, ?_⟩
    refine ⟨?_, rfl⟩
    first
      | (rw [hB.mp (by omega)]; rfl)
      | (rcases w with _ | v
         · exact absurd (hB.mpr rfl) (by omega)
         · exact hx)

theorem cc4_isAtLeast {D : Nat} (hD : 2 ≤ D) (σ : am_HS) (x : Int) {a : Vl} (ha : vok a) (hx : x = encV a) (n : Int) (hn : 0 ≤ n ∧ n ≤ 9999) : am_Do lc D mX4_isAtLeast σ [vL x, vI n] (qI fun z s => (z = 1 ∧ atL a n ∨ z = 0 ∧ ¬ atL a n) ∧ s = σ) := by
  have hxr : rL x := by rw [hx]; exact encV_r ha
  obtain ⟨d, rfl⟩ : ∃ d, D = d + 1 := ⟨D - 1, by omega⟩
  refine am_enter rfl rfl (Nat.le_of_ble_eq_true rfl) ?_
  refine g_lload_n dX4_isAtLeast_0 rfl ?_
  refine g_callsI dX4_isAtLeast_1 tm_4_28 rfl ⟨Nat.le_of_ble_eq_true rfl, rfl, rfl⟩ (Nat.le_of_ble_eq_true rfl) (cc4_isNumber (by omega) σ _ hxr) (fun z1 s1 h1 => ?_)
  obtain ⟨h1, e1⟩ := h1
  obtain rfl := e1.symm
  refine g_if_eq (tgt := 26) dX4_isAtLeast_4 (by decide) (fun c4 => ?_) (fun c4 => ?_)
  · refine g_iconst dX4_isAtLeast_26 ⟨by decide, by decide⟩ ?_
    refine g_ireturn dX4_isAtLeast_27 (Or.inr ⟨rfl, by omega⟩) ⟨_, rfl, ?_⟩
    refine ⟨?_, rfl⟩
    first
      | exact Or.inl ⟨rfl, by show n * d1 ≤ u1; omega⟩
      | exact Or.inr ⟨rfl, by show ¬ n * d1 ≤ u1; omega⟩
      | (refine Or.inr ⟨rfl, ?_⟩
         rcases enc_nn ha hx (by omega) with e | e <;> (subst e; exact fun h => h))
  · obtain ⟨u1, d1, rfl, b1, b2, b3, b4, b5, b6⟩ := enc_n ha hx (by omega)
    have m1 := mul_b2 (M := 9999) (N := 1000000000) (x := n) (y := d1) ⟨by omega, by omega⟩ ⟨by omega, by omega⟩
    refine g_lload_n dX4_isAtLeast_7 rfl ?_
    refine g_callsL dX4_isAtLeast_8 tm_4_17 rfl ⟨Nat.le_of_ble_eq_true rfl, rfl, rfl⟩ (Nat.le_of_ble_eq_true rfl) (cc4_upper (by omega) σ _ hxr) (fun z8 s8 h8 => ?_)
    obtain ⟨rfl, e8⟩ := h8
    obtain rfl := e8.symm
    rw [b5]
    refine g_iload_n dX4_isAtLeast_11 rfl ?_
    refine g_i2l dX4_isAtLeast_12 ?_
    refine g_lload_n dX4_isAtLeast_13 rfl ?_
    refine g_callsL dX4_isAtLeast_14 tm_4_21 rfl ⟨Nat.le_of_ble_eq_true rfl, rfl, rfl⟩ (Nat.le_of_ble_eq_true rfl) (cc4_lower (by omega) σ _ hxr) (fun z14 s14 h14 => ?_)
    obtain ⟨rfl, e14⟩ := h14
    obtain rfl := e14.symm
    rw [b6]
    refine g_lmul dX4_isAtLeast_17 rfl ⟨by omega, by omega⟩ ?_
    refine g_lc_lt (tgt := 26) dX4_isAtLeast_18 dX4_isAtLeast_19 (by decide) (fun c19 => ?_) (fun c19 => ?_)
    · refine g_iconst dX4_isAtLeast_26 ⟨by decide, by decide⟩ ?_
      refine g_ireturn dX4_isAtLeast_27 (Or.inr ⟨rfl, by omega⟩) ⟨_, rfl, ?_⟩
      refine ⟨?_, rfl⟩
      first
        | exact Or.inl ⟨rfl, by show n * d1 ≤ u1; omega⟩
        | exact Or.inr ⟨rfl, by show ¬ n * d1 ≤ u1; omega⟩
        | (refine Or.inr ⟨rfl, ?_⟩
           rcases enc_nn ha hx (by omega) with e | e <;> (subst e; exact fun h => h))
    · refine g_iconst dX4_isAtLeast_22 ⟨by decide, by decide⟩ ?_
      refine g_goto (tgt := 27) dX4_isAtLeast_23 (by decide) ?_
      refine g_ireturn dX4_isAtLeast_27 (Or.inr ⟨rfl, by omega⟩) ⟨_, rfl, ?_⟩
      refine ⟨?_, rfl⟩
      first
        | exact Or.inl ⟨rfl, by show n * d1 ≤ u1; omega⟩
        | exact Or.inr ⟨rfl, by show ¬ n * d1 ≤ u1; omega⟩
        | (refine Or.inr ⟨rfl, ?_⟩
           rcases enc_nn ha hx (by omega) with e | e <;> (subst e; exact fun h => h))

theorem cc4_cap {D : Nat} (hD : 3 ≤ D) (σ : am_HS) (x : Int) {a : Vl} (ha : vok a) (hx : x = encV a) (n : Int) (hn : 0 ≤ n ∧ n ≤ 9999) : am_Do lc D mX4_cap σ [vL x, vI n] (qL fun z s => z = encV (cpV a n) ∧ s = σ) := by
  obtain ⟨d, rfl⟩ : ∃ d, D = d + 1 := ⟨D - 1, by omega⟩
  refine am_enter rfl rfl (Nat.le_of_ble_eq_true rfl) ?_
  refine g_lload_n dX4_cap_0 rfl ?_
  refine g_iload_n dX4_cap_1 rfl ?_
  refine g_callsI dX4_cap_2 tm_4_37 rfl ⟨Nat.le_of_ble_eq_true rfl, rfl, rfl⟩ (Nat.le_of_ble_eq_true rfl) (cc4_isAtLeast (by omega) σ x ha hx n hn) (fun z2 s2 h2 => ?_)
  obtain ⟨h2, e2⟩ := h2
  obtain rfl := e2.symm
  refine g_if_eq (tgt := 15) dX4_cap_5 (by decide) (fun c5 => ?_) (fun c5 => ?_)
  · refine g_lload_n dX4_cap_15 rfl ?_
    refine g_lreturn dX4_cap_16 rfl ⟨_, rfl, ?_⟩
    refine ⟨?_, rfl⟩
    rcases a with _ | _ | q
    · first
        | exact hx
        | (rcases h2 with ⟨_, g⟩ | ⟨g, _⟩; exact g.elim; exact absurd g c5)
    · first
        | exact hx
        | (rcases h2 with ⟨_, g⟩ | ⟨g, _⟩; exact g.elim; exact absurd g c5)
    · unfold cpV
      dsimp only
      first
        | (rw [if_neg (show ¬ n * q.2 ≤ q.1 from by rcases h2 with ⟨g, _⟩ | ⟨_, g⟩; exact absurd (g.symm.trans c5) (by decide); exact g)]; exact hx)
        | (rw [if_pos (show n * q.2 ≤ q.1 from by rcases h2 with ⟨_, g⟩ | ⟨g, _⟩; exact g; exact absurd g c5)]; rfl)
  · refine g_iload_n dX4_cap_8 rfl ?_
    refine g_callsL dX4_cap_9 tm_4_41 rfl ⟨Nat.le_of_ble_eq_true rfl, rfl, rfl⟩ (Nat.le_of_ble_eq_true rfl) (cc4_whole (by omega) σ n ⟨by omega, by omega⟩) (fun z9 s9 h9 => ?_)
    obtain ⟨rfl, e9⟩ := h9
    obtain rfl := e9.symm
    refine g_goto (tgt := 16) dX4_cap_12 (by decide) ?_
    refine g_lreturn dX4_cap_16 rfl ⟨_, rfl, ?_⟩
    refine ⟨?_, rfl⟩
    rcases a with _ | _ | q
    · first
        | exact hx
        | (rcases h2 with ⟨_, g⟩ | ⟨g, _⟩; exact g.elim; exact absurd g c5)
    · first
        | exact hx
        | (rcases h2 with ⟨_, g⟩ | ⟨g, _⟩; exact g.elim; exact absurd g c5)
    · unfold cpV
      dsimp only
      first
        | (rw [if_neg (show ¬ n * q.2 ≤ q.1 from by rcases h2 with ⟨g, _⟩ | ⟨_, g⟩; exact absurd (g.symm.trans c5) (by decide); exact g)]; exact hx)
        | (rw [if_pos (show n * q.2 ≤ q.1 from by rcases h2 with ⟨_, g⟩ | ⟨g, _⟩; exact g; exact absurd g c5)]; rfl)

theorem cc4_pass {D : Nat} (hD : 3 ≤ D) (σ : am_HS) (x : Int) {a : Vl} (ha : vok a) (hx : x = encV a) (n : Int) (hn : 0 ≤ n ∧ n ≤ 9999) : am_Do lc D mX4_pass σ [vL x, vI n] (qL fun z s => z = encV (psV a n) ∧ s = σ) := by
  have hxr : rL x := by rw [hx]; exact encV_r ha
  obtain ⟨d, rfl⟩ : ∃ d, D = d + 1 := ⟨D - 1, by omega⟩
  refine am_enter rfl rfl (Nat.le_of_ble_eq_true rfl) ?_
  refine g_lload_n dX4_pass_0 rfl ?_
  refine g_callsI dX4_pass_1 tm_4_28 rfl ⟨Nat.le_of_ble_eq_true rfl, rfl, rfl⟩ (Nat.le_of_ble_eq_true rfl) (cc4_isNumber (by omega) σ _ hxr) (fun z1 s1 h1 => ?_)
  obtain ⟨h1, e1⟩ := h1
  obtain rfl := e1.symm
  refine g_if_eq (tgt := 26) dX4_pass_4 (by decide) (fun c4 => ?_) (fun c4 => ?_)
  · refine g_lload_n dX4_pass_26 rfl ?_
    refine g_lreturn dX4_pass_27 rfl ⟨_, rfl, ?_⟩
    first
      | (refine ⟨?_, rfl⟩
         subst ea
         show _ = (if n * d1 ≤ u1 then 1 else 0) * 4294967296 + 1
         first
           | (rw [if_pos (show n * d1 ≤ u1 from by rcases h9 with ⟨_, g⟩ | ⟨g, _⟩; exact g; exact absurd g c12)]; done)
           | (rw [if_neg (show ¬ n * d1 ≤ u1 from by rcases h9 with ⟨g, _⟩ | ⟨_, g⟩; exact absurd (g.symm.trans c12) (by decide); exact g)]; done))
      | (refine ⟨?_, rfl⟩
         rcases enc_nn ha hx (by omega) with e | e
         · subst e; exact hx
         · subst e; exact hx)
  · obtain ⟨u1, d1, ea, -⟩ := enc_n ha hx (by omega)
    refine g_lload_n dX4_pass_7 rfl ?_
    refine g_iload_n dX4_pass_8 rfl ?_
    refine g_callsI dX4_pass_9 tm_4_37 rfl ⟨Nat.le_of_ble_eq_true rfl, rfl, rfl⟩ (Nat.le_of_ble_eq_true rfl) (cc4_isAtLeast (by omega) σ x ha hx n hn) (fun z9 s9 h9 => ?_)
    obtain ⟨h9, e9⟩ := h9
    obtain rfl := e9.symm
    refine g_if_eq (tgt := 19) dX4_pass_12 (by decide) (fun c12 => ?_) (fun c12 => ?_)
    · refine g_iconst dX4_pass_19 ⟨by decide, by decide⟩ ?_
      refine g_callsL dX4_pass_20 tm_4_41 rfl ⟨Nat.le_of_ble_eq_true rfl, rfl, rfl⟩ (Nat.le_of_ble_eq_true rfl) (cc4_whole (by omega) σ _ ⟨by omega, by omega⟩) (fun z20 s20 h20 => ?_)
      obtain ⟨rfl, e20⟩ := h20
      obtain rfl := e20.symm
      refine g_goto (tgt := 27) dX4_pass_23 (by decide) ?_
      refine g_lreturn dX4_pass_27 rfl ⟨_, rfl, ?_⟩
      first
        | (refine ⟨?_, rfl⟩
           subst ea
           show _ = (if n * d1 ≤ u1 then 1 else 0) * 4294967296 + 1
           first
             | (rw [if_pos (show n * d1 ≤ u1 from by rcases h9 with ⟨_, g⟩ | ⟨g, _⟩; exact g; exact absurd g c12)]; done)
             | (rw [if_neg (show ¬ n * d1 ≤ u1 from by rcases h9 with ⟨g, _⟩ | ⟨_, g⟩; exact absurd (g.symm.trans c12) (by decide); exact g)]; done))
        | (refine ⟨?_, rfl⟩
           rcases enc_nn ha hx (by omega) with e | e
           · subst e; exact hx
           · subst e; exact hx)
    · refine g_iconst dX4_pass_15 ⟨by decide, by decide⟩ ?_
      refine g_goto (tgt := 20) dX4_pass_16 (by decide) ?_
      refine g_callsL dX4_pass_20 tm_4_41 rfl ⟨Nat.le_of_ble_eq_true rfl, rfl, rfl⟩ (Nat.le_of_ble_eq_true rfl) (cc4_whole (by omega) σ _ ⟨by omega, by omega⟩) (fun z20 s20 h20 => ?_)
      obtain ⟨rfl, e20⟩ := h20
      obtain rfl := e20.symm
      refine g_goto (tgt := 27) dX4_pass_23 (by decide) ?_
      refine g_lreturn dX4_pass_27 rfl ⟨_, rfl, ?_⟩
      first
        | (refine ⟨?_, rfl⟩
           subst ea
           show _ = (if n * d1 ≤ u1 then 1 else 0) * 4294967296 + 1
           first
             | (rw [if_pos (show n * d1 ≤ u1 from by rcases h9 with ⟨_, g⟩ | ⟨g, _⟩; exact g; exact absurd g c12)]; done)
             | (rw [if_neg (show ¬ n * d1 ≤ u1 from by rcases h9 with ⟨g, _⟩ | ⟨_, g⟩; exact absurd (g.symm.trans c12) (by decide); exact g)]; done))
        | (refine ⟨?_, rfl⟩
           rcases enc_nn ha hx (by omega) with e | e
           · subst e; exact hx
           · subst e; exact hx)

theorem cc4_isLess {D : Nat} (hD : 2 ≤ D) (σ : am_HS) (x y : Int) {a b : Vl} (ha : vok a) (hb : vok b) (hx : x = encV a) (hy : y = encV b) : am_Do lc D mX4_isLess σ [vL x, vL y] (qI fun z s => (z = 1 ∧ ltV a b ∨ z = 0 ∧ ¬ ltV a b) ∧ s = σ) := by
  have hxr : rL x := by rw [hx]; exact encV_r ha
  have hyr : rL y := by rw [hy]; exact encV_r hb
  obtain ⟨d, rfl⟩ : ∃ d, D = d + 1 := ⟨D - 1, by omega⟩
  refine am_enter rfl rfl (Nat.le_of_ble_eq_true rfl) ?_
  refine g_lload_n dX4_isLess_0 rfl ?_
  refine g_callsI dX4_isLess_1 tm_4_28 rfl ⟨Nat.le_of_ble_eq_true rfl, rfl, rfl⟩ (Nat.le_of_ble_eq_true rfl) (cc4_isNumber (by omega) σ _ hxr) (fun z1 s1 h1 => ?_)
  obtain ⟨h1, e1⟩ := h1
  obtain rfl := e1.symm
  refine g_if_eq (tgt := 40) dX4_isLess_4 (by decide) (fun c4 => ?_) (fun c4 => ?_)
  · refine g_iconst dX4_isLess_40 ⟨by decide, by decide⟩ ?_
    refine g_ireturn dX4_isLess_41 (Or.inr ⟨rfl, by omega⟩) ⟨_, rfl, ?_⟩
    refine ⟨?_, rfl⟩
    first
      | exact Or.inl ⟨rfl, by show u1 * d2 < u2 * d1; omega⟩
      | exact Or.inr ⟨rfl, by show ¬ u1 * d2 < u2 * d1; omega⟩
      | (refine Or.inr ⟨rfl, ?_⟩
         have hz0 : x % 4294967296 = 0 := by omega
         rcases enc_nn ha hx hz0 with e | e <;> (subst e; rcases b with _ | _ | q <;> exact fun h => h))
      | (refine Or.inr ⟨rfl, ?_⟩
         have hz0 : y % 4294967296 = 0 := by omega
         rcases enc_nn hb hy hz0 with e | e <;> (subst e; rcases a with _ | _ | q <;> exact fun h => h))
  · refine g_lload_n dX4_isLess_7 rfl ?_
    refine g_callsI dX4_isLess_8 tm_4_28 rfl ⟨Nat.le_of_ble_eq_true rfl, rfl, rfl⟩ (Nat.le_of_ble_eq_true rfl) (cc4_isNumber (by omega) σ _ hyr) (fun z8 s8 h8 => ?_)
    obtain ⟨h8, e8⟩ := h8
    obtain rfl := e8.symm
    refine g_if_eq (tgt := 40) dX4_isLess_11 (by decide) (fun c11 => ?_) (fun c11 => ?_)
    · refine g_iconst dX4_isLess_40 ⟨by decide, by decide⟩ ?_
      refine g_ireturn dX4_isLess_41 (Or.inr ⟨rfl, by omega⟩) ⟨_, rfl, ?_⟩
      refine ⟨?_, rfl⟩
      first
        | exact Or.inl ⟨rfl, by show u1 * d2 < u2 * d1; omega⟩
        | exact Or.inr ⟨rfl, by show ¬ u1 * d2 < u2 * d1; omega⟩
        | (refine Or.inr ⟨rfl, ?_⟩
           have hz0 : x % 4294967296 = 0 := by omega
           rcases enc_nn ha hx hz0 with e | e <;> (subst e; rcases b with _ | _ | q <;> exact fun h => h))
        | (refine Or.inr ⟨rfl, ?_⟩
           have hz0 : y % 4294967296 = 0 := by omega
           rcases enc_nn hb hy hz0 with e | e <;> (subst e; rcases a with _ | _ | q <;> exact fun h => h))
    · obtain ⟨u1, d1, rfl, b1, b2, b3, b4, b5, b6⟩ := enc_n ha hx (by omega)
      obtain ⟨u2, d2, rfl, g1, g2, g3, g4, g5, g6⟩ := enc_n hb hy (by omega)
      have m1 := mul_b2 (M := 1000000000) (N := 1000000000) (x := u1) (y := d2) ⟨by omega, by omega⟩ ⟨by omega, by omega⟩
      have m2 := mul_b2 (M := 1000000000) (N := 1000000000) (x := u2) (y := d1) ⟨by omega, by omega⟩ ⟨by omega, by omega⟩
      refine g_lload_n dX4_isLess_14 rfl ?_
      refine g_callsL dX4_isLess_15 tm_4_17 rfl ⟨Nat.le_of_ble_eq_true rfl, rfl, rfl⟩ (Nat.le_of_ble_eq_true rfl) (cc4_upper (by omega) σ _ hxr) (fun z15 s15 h15 => ?_)
      obtain ⟨rfl, e15⟩ := h15
      obtain rfl := e15.symm
      rw [b5]
      refine g_lload_n dX4_isLess_18 rfl ?_
      refine g_callsL dX4_isLess_19 tm_4_21 rfl ⟨Nat.le_of_ble_eq_true rfl, rfl, rfl⟩ (Nat.le_of_ble_eq_true rfl) (cc4_lower (by omega) σ _ hyr) (fun z19 s19 h19 => ?_)
      obtain ⟨rfl, e19⟩ := h19
      obtain rfl := e19.symm
      rw [g6]
      refine g_lmul dX4_isLess_22 rfl ⟨by omega, by omega⟩ ?_
      refine g_lload_n dX4_isLess_23 rfl ?_
      refine g_callsL dX4_isLess_24 tm_4_17 rfl ⟨Nat.le_of_ble_eq_true rfl, rfl, rfl⟩ (Nat.le_of_ble_eq_true rfl) (cc4_upper (by omega) σ _ hyr) (fun z24 s24 h24 => ?_)
      obtain ⟨rfl, e24⟩ := h24
      obtain rfl := e24.symm
      rw [g5]
      refine g_lload_n dX4_isLess_27 rfl ?_
      refine g_callsL dX4_isLess_28 tm_4_21 rfl ⟨Nat.le_of_ble_eq_true rfl, rfl, rfl⟩ (Nat.le_of_ble_eq_true rfl) (cc4_lower (by omega) σ _ hxr) (fun z28 s28 h28 => ?_)
      obtain ⟨rfl, e28⟩ := h28
      obtain rfl := e28.symm
      rw [b6]
      refine g_lmul dX4_isLess_31 rfl ⟨by omega, by omega⟩ ?_
      refine g_lc_ge (tgt := 40) dX4_isLess_32 dX4_isLess_33 (by decide) (fun c33 => ?_) (fun c33 => ?_)
      · refine g_iconst dX4_isLess_40 ⟨by decide, by decide⟩ ?_
        refine g_ireturn dX4_isLess_41 (Or.inr ⟨rfl, by omega⟩) ⟨_, rfl, ?_⟩
        refine ⟨?_, rfl⟩
        first
          | exact Or.inl ⟨rfl, by show u1 * d2 < u2 * d1; omega⟩
          | exact Or.inr ⟨rfl, by show ¬ u1 * d2 < u2 * d1; omega⟩
          | (refine Or.inr ⟨rfl, ?_⟩
             have hz0 : x % 4294967296 = 0 := by omega
             rcases enc_nn ha hx hz0 with e | e <;> (subst e; rcases b with _ | _ | q <;> exact fun h => h))
          | (refine Or.inr ⟨rfl, ?_⟩
             have hz0 : y % 4294967296 = 0 := by omega
             rcases enc_nn hb hy hz0 with e | e <;> (subst e; rcases a with _ | _ | q <;> exact fun h => h))
      · refine g_iconst dX4_isLess_36 ⟨by decide, by decide⟩ ?_
        refine g_goto (tgt := 41) dX4_isLess_37 (by decide) ?_
        refine g_ireturn dX4_isLess_41 (Or.inr ⟨rfl, by omega⟩) ⟨_, rfl, ?_⟩
        refine ⟨?_, rfl⟩
        first
          | exact Or.inl ⟨rfl, by show u1 * d2 < u2 * d1; omega⟩
          | exact Or.inr ⟨rfl, by show ¬ u1 * d2 < u2 * d1; omega⟩
          | (refine Or.inr ⟨rfl, ?_⟩
             have hz0 : x % 4294967296 = 0 := by omega
             rcases enc_nn ha hx hz0 with e | e <;> (subst e; rcases b with _ | _ | q <;> exact fun h => h))
          | (refine Or.inr ⟨rfl, ?_⟩
             have hz0 : y % 4294967296 = 0 := by omega
             rcases enc_nn hb hy hz0 with e | e <;> (subst e; rcases a with _ | _ | q <;> exact fun h => h))

theorem cc4_times {D : Nat} (hD : 2 ≤ D) (σ : am_HS) (x y : Int) {w : WV} {b : Vl} (hw : wok w) (hb : vok b) (hx : x = encW w) (hy : y = encV b) : am_Do lc D mX4_times σ [vL x, vL y] (qL fun z s => z = encW (tmW w b) ∧ s = σ) := by
  have hxr : rL x := by rw [hx]; exact encW_r hw
  have hyr : rL y := by rw [hy]; exact encV_r hb
  have hB := encW_B hw
  rw [← hx] at hB
  obtain ⟨d, rfl⟩ : ∃ d, D = d + 1 := ⟨D - 1, by omega⟩
  refine am_enter rfl rfl (Nat.le_of_ble_eq_true rfl) ?_
  refine g_lload_n dX4_times_0 rfl ?_
  refine g_ldc2 dX4_times_1 tj_4_11 ⟨by decide, by decide⟩ ?_
  refine g_lc_eq (tgt := 16) dX4_times_4 dX4_times_5 (by decide) (fun c5 => ?_) (fun c5 => ?_)
  · refine g_ldc2 dX4_times_16 tj_4_11 ⟨by decide, by decide⟩ ?_
    refine g_lreturn dX4_times_19 rfl ⟨_, rfl, ?_⟩
    refine ⟨?_, rfl⟩
    have hl : w = some vX ∨ b = vX := by
      first
        | exact Or.inr (enc_X hb hy (by omega))
        | (rcases w with _ | a
           · exact absurd (hB.mpr rfl) (by omega)
           · exact Or.inl (by rw [enc_X hw hx (by omega)]))
    rcases hl with e | e
    · subst e
      rcases b with _ | _ | q <;> rfl
    · subst e
      rfl
  · refine g_lload_n dX4_times_8 rfl ?_
    refine g_ldc2 dX4_times_9 tj_4_11 ⟨by decide, by decide⟩ ?_
    refine g_lc_ne (tgt := 20) dX4_times_12 dX4_times_13 (by decide) (fun c13 => ?_) (fun c13 => ?_)
    · refine g_lload_n dX4_times_20 rfl ?_
      refine g_lconst0 dX4_times_21 ?_
      refine g_lc_eq (tgt := 32) dX4_times_22 dX4_times_23 (by decide) (fun c23 => ?_) (fun c23 => ?_)
      · refine g_lconst0 dX4_times_32 ?_
        refine g_lreturn dX4_times_33 rfl ⟨_, rfl, ?_⟩
        refine ⟨?_, rfl⟩
        have hl : w = some vO ∨ b = vO := by
          first
            | exact Or.inr (enc_O hb hy (by omega))
            | (rcases w with _ | a
               · exact absurd (hB.mpr rfl) (by omega)
               · exact Or.inl (by rw [enc_O hw hx (by omega)]))
        rcases hl with e | e
        · subst e
          rcases b with _ | _ | q
          · rfl
          · have hy : y = 4294967296 := hy
            omega
          · rfl
        · subst e
          rcases w with _ | _ | _ | p
          · rfl
          · rfl
          · have hx : x = 4294967296 := hx
            omega
          · rfl
      · refine g_lload_n dX4_times_26 rfl ?_
        refine g_lconst0 dX4_times_27 ?_
        refine g_lc_ne (tgt := 34) dX4_times_28 dX4_times_29 (by decide) (fun c29 => ?_) (fun c29 => ?_)
        · obtain ⟨u2, d2, rfl, g1, g2, g3, g4, g5, g6⟩ := enc_n hb hy (enc_m hb hy (by omega) (by omega))
          refine g_lload_n dX4_times_34 rfl ?_
          refine g_ldc2 dX4_times_35 tj_4_32 ⟨by decide, by decide⟩ ?_
          refine g_lc_ne (tgt := 46) dX4_times_38 dX4_times_39 (by decide) (fun c39 => ?_) (fun c39 => ?_)
          · obtain ⟨a, rfl⟩ : ∃ a, w = some a := by
              rcases w with _ | a
              · exact absurd (hB.mpr rfl) (by omega)
              · exact ⟨a, rfl⟩
            have ha : vok a := hw
            have hx : x = encV a := hx
            obtain ⟨u1, d1, rfl, b1, b2, b3, b4, b5, b6⟩ := enc_n ha hx (enc_m ha hx (by omega) (by omega))
            have m1 := mul_b2 (M := 1000000000) (N := 1000000000) (x := u1) (y := u2) ⟨by omega, by omega⟩
            have m1a : -1000000000000000000 ≤ u1 * u2 ∧ u1 * u2 ≤ 1000000000000000000 := by
              rcases Int.le_total 0 u2 with h | h
              · have := mul_b2 (M := 1000000000) (N := 1000000000) (x := u1) (y := u2) ⟨by omega, by omega⟩ ⟨by omega, by omega⟩
                omega
              · have := mul_b2 (M := 1000000000) (N := 1000000000) (x := u1) (y := -u2) ⟨by omega, by omega⟩ ⟨by omega, by omega⟩
                rw [Int.mul_neg] at this
                omega
            have m3 := mul_p (N := 1000000000) (x := d1) (y := d2) ⟨by omega, by omega⟩ ⟨by omega, by omega⟩
            refine g_lload_n dX4_times_46 rfl ?_
            refine g_callsL dX4_times_47 tm_4_17 rfl ⟨Nat.le_of_ble_eq_true rfl, rfl, rfl⟩ (Nat.le_of_ble_eq_true rfl) (cc4_upper (by omega) σ _ hxr) (fun z47 s47 h47 => ?_)
            obtain ⟨rfl, e47⟩ := h47
            obtain rfl := e47.symm
            rw [b5]
            refine g_lload_n dX4_times_50 rfl ?_
            refine g_callsL dX4_times_51 tm_4_17 rfl ⟨Nat.le_of_ble_eq_true rfl, rfl, rfl⟩ (Nat.le_of_ble_eq_true rfl) (cc4_upper (by omega) σ _ hyr) (fun z51 s51 h51 => ?_)
            obtain ⟨rfl, e51⟩ := h51
            obtain rfl := e51.symm
            rw [g5]
            refine g_lmul dX4_times_54 rfl ⟨by omega, by omega⟩ ?_
            refine g_lload_n dX4_times_55 rfl ?_
            refine g_callsL dX4_times_56 tm_4_21 rfl ⟨Nat.le_of_ble_eq_true rfl, rfl, rfl⟩ (Nat.le_of_ble_eq_true rfl) (cc4_lower (by omega) σ _ hxr) (fun z56 s56 h56 => ?_)
            obtain ⟨rfl, e56⟩ := h56
            obtain rfl := e56.symm
            rw [b6]
            refine g_lload_n dX4_times_59 rfl ?_
            refine g_callsL dX4_times_60 tm_4_21 rfl ⟨Nat.le_of_ble_eq_true rfl, rfl, rfl⟩ (Nat.le_of_ble_eq_true rfl) (cc4_lower (by omega) σ _ hyr) (fun z60 s60 h60 => ?_)
            obtain ⟨rfl, e60⟩ := h60
            obtain rfl := e60.symm
            rw [g6]
            refine g_lmul dX4_times_63 rfl ⟨by omega, by omega⟩ ?_
            refine g_callsL dX4_times_64 tm_4_24 rfl ⟨Nat.le_of_ble_eq_true rfl, rfl, rfl⟩ (Nat.le_of_ble_eq_true rfl) (cc4_of (by omega) σ _ _ ⟨by omega, by omega⟩ ⟨by omega, by omega⟩) (fun z64 s64 h64 => ?_)
            obtain ⟨rfl, e64⟩ := h64
            obtain rfl := e64.symm
            refine g_callsL dX4_times_67 tm_4_34 rfl ⟨Nat.le_of_ble_eq_true rfl, rfl, rfl⟩ (Nat.le_of_ble_eq_true rfl) (cc4_onTheWay (by omega) σ _ (nrm_ok m3.1) rfl (nrm_nO _ _)) (fun z67 s67 h67 => ?_)
            obtain ⟨rfl, e67⟩ := h67
            obtain rfl := e67.symm
            refine g_lreturn dX4_times_70 rfl ⟨_, rfl, ?_⟩
            refine ⟨?_, rfl⟩
            first
              | rfl
              | (rw [hB.mp (by omega)]; exact (by omega : x = 8589934592))
          · refine g_lload_n dX4_times_42 rfl ?_
            refine g_goto (tgt := 70) dX4_times_43 (by decide) ?_
            refine g_lreturn dX4_times_70 rfl ⟨_, rfl, ?_⟩
            refine ⟨?_, rfl⟩
            first
              | rfl
              | (rw [hB.mp (by omega)]; exact (by omega : x = 8589934592))
        · refine g_lconst0 dX4_times_32 ?_
          refine g_lreturn dX4_times_33 rfl ⟨_, rfl, ?_⟩
          refine ⟨?_, rfl⟩
          have hl : w = some vO ∨ b = vO := by
            first
              | exact Or.inr (enc_O hb hy (by omega))
              | (rcases w with _ | a
                 · exact absurd (hB.mpr rfl) (by omega)
                 · exact Or.inl (by rw [enc_O hw hx (by omega)]))
          rcases hl with e | e
          · subst e
            rcases b with _ | _ | q
            · rfl
            · have hy : y = 4294967296 := hy
              omega
            · rfl
          · subst e
            rcases w with _ | _ | _ | p
            · rfl
            · rfl
            · have hx : x = 4294967296 := hx
              omega
            · rfl
    · refine g_ldc2 dX4_times_16 tj_4_11 ⟨by decide, by decide⟩ ?_
      refine g_lreturn dX4_times_19 rfl ⟨_, rfl, ?_⟩
      refine ⟨?_, rfl⟩
      have hl : w = some vX ∨ b = vX := by
        first
          | exact Or.inr (enc_X hb hy (by omega))
          | (rcases w with _ | a
             · exact absurd (hB.mpr rfl) (by omega)
             · exact Or.inl (by rw [enc_X hw hx (by omega)]))
      rcases hl with e | e
      · subst e
        rcases b with _ | _ | q <;> rfl
      · subst e
        rfl

theorem cc4_over {D : Nat} (hD : 2 ≤ D) (σ : am_HS) (x : Int) {w : WV} (hw : wok w) (hx : x = encW w) (n : Int) (hn : 1 ≤ n ∧ n ≤ 100000) : am_Do lc D mX4_over σ [vL x, vI n] (qL fun z s => z = encW (ovW w n) ∧ s = σ) := by
  have hxr : rL x := by rw [hx]; exact encW_r hw
  have hlo := encW_lo hw
  rw [← hx] at hlo
  obtain ⟨d, rfl⟩ : ∃ d, D = d + 1 := ⟨D - 1, by omega⟩
  refine am_enter rfl rfl (Nat.le_of_ble_eq_true rfl) ?_
  refine g_lload_n dX4_over_0 rfl ?_
  refine g_callsI dX4_over_1 tm_4_28 rfl ⟨Nat.le_of_ble_eq_true rfl, rfl, rfl⟩ (Nat.le_of_ble_eq_true rfl) (cc4_isNumber (by omega) σ _ hxr) (fun z1 s1 h1 => ?_)
  obtain ⟨h1, e1⟩ := h1
  obtain rfl := e1.symm
  refine g_if_eq (tgt := 27) dX4_over_4 (by decide) (fun c4 => ?_) (fun c4 => ?_)
  · refine g_lload_n dX4_over_27 rfl ?_
    refine g_lreturn dX4_over_28 rfl ⟨_, rfl, ?_⟩
    first
      | exact ⟨rfl, rfl⟩
      | (refine ⟨?_, rfl⟩
         rcases w with _ | _ | _ | p
         · exact hx
         · exact hx
         · exact hx
         · exfalso
           have h3 : 1 ≤ p.2 := hw.2.2.1
           have hlo : x % 4294967296 = p.2 := hlo
           omega)
  · obtain ⟨a, rfl⟩ : ∃ a, w = some a := by
      rcases w with _ | a
      · exact absurd hlo (show ¬ x % 4294967296 = 0 from by omega)
      · exact ⟨a, rfl⟩
    have ha : vok a := hw
    have hx : x = encV a := hx
    obtain ⟨u1, d1, rfl, b1, b2, b3, b4, b5, b6⟩ := enc_n ha hx (by omega)
    have m3 : 1 ≤ d1 * n ∧ d1 * n ≤ 100000000000000 := by
      have h1 : 1 * 1 ≤ d1 * n := Int.mul_le_mul (by omega) hn.1 (by omega) (by omega)
      have h2 : d1 * n ≤ 1000000000 * 100000 := Int.mul_le_mul (by omega) hn.2 (by omega) (by omega)
      omega
    refine g_lload_n dX4_over_7 rfl ?_
    refine g_callsL dX4_over_8 tm_4_17 rfl ⟨Nat.le_of_ble_eq_true rfl, rfl, rfl⟩ (Nat.le_of_ble_eq_true rfl) (cc4_upper (by omega) σ _ hxr) (fun z8 s8 h8 => ?_)
    obtain ⟨rfl, e8⟩ := h8
    obtain rfl := e8.symm
    rw [b5]
    refine g_lload_n dX4_over_11 rfl ?_
    refine g_callsL dX4_over_12 tm_4_21 rfl ⟨Nat.le_of_ble_eq_true rfl, rfl, rfl⟩ (Nat.le_of_ble_eq_true rfl) (cc4_lower (by omega) σ _ hxr) (fun z12 s12 h12 => ?_)
    obtain ⟨rfl, e12⟩ := h12
    obtain rfl := e12.symm
    rw [b6]
    refine g_iload_n dX4_over_15 rfl ?_
    refine g_i2l dX4_over_16 ?_
    refine g_lmul dX4_over_17 rfl ⟨by omega, by omega⟩ ?_
    refine g_callsL dX4_over_18 tm_4_24 rfl ⟨Nat.le_of_ble_eq_true rfl, rfl, rfl⟩ (Nat.le_of_ble_eq_true rfl) (cc4_of (by omega) σ _ _ ⟨by omega, by omega⟩ ⟨by omega, by omega⟩) (fun z18 s18 h18 => ?_)
    obtain ⟨rfl, e18⟩ := h18
    obtain rfl := e18.symm
    refine g_callsL dX4_over_21 tm_4_34 rfl ⟨Nat.le_of_ble_eq_true rfl, rfl, rfl⟩ (Nat.le_of_ble_eq_true rfl) (cc4_onTheWay (by omega) σ _ (nrm_ok m3.1) rfl (nrm_nO _ _)) (fun z21 s21 h21 => ?_)
    obtain ⟨rfl, e21⟩ := h21
    obtain rfl := e21.symm
    refine g_goto (tgt := 28) dX4_over_24 (by decide) ?_
    refine g_lreturn dX4_over_28 rfl ⟨_, rfl, ?_⟩
    first
      | exact ⟨rfl, rfl⟩
      | (refine ⟨?_, rfl⟩
         rcases w with _ | _ | _ | p
         · exact hx
         · exact hx
         · exact hx
         · exfalso
           have h3 : 1 ≤ p.2 := hw.2.2.1
           have hlo : x % 4294967296 = p.2 := hlo
           omega)

