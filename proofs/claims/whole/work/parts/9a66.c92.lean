section
/-! THE LAW'S BEGINNING: what the tables say -/
variable {s : State} {args : Array Value}
set_option maxRecDepth 100000 in
theorem lw_q5 : Cond.arrayOver (.object RX5) ∈ lw_tbl := List.mem_of_getElem? (i := 110) (by decide +kernel)
set_option maxRecDepth 100000 in
theorem lw_q3 : Cond.arrayOver (.object RX3) ∈ lw_tbl := List.mem_of_getElem? (i := 112) (by decide +kernel)
set_option maxRecDepth 100000 in
theorem lw_n61 : Cond.methodLinkNest RX6 27 yX1_init "CourseHouse" ∈ lw_tbl := List.mem_of_getElem? (i := 115) (by decide +kernel)
set_option maxRecDepth 100000 in
theorem lw_n62 : Cond.methodLinkNest RX6 34 yX2_init "CourseHouse" ∈ lw_tbl := List.mem_of_getElem? (i := 209) (by decide +kernel)
set_option maxRecDepth 100000 in
theorem lw_n60 : Cond.methodLinkNest RX6 41 yX0_init "CourseHouse" ∈ lw_tbl := List.mem_of_getElem? (i := 245) (by decide +kernel)
set_option maxRecDepth 100000 in
theorem lw_n65 : Cond.methodLinkNest RX6 49 yX5_init "CourseHouse" ∈ lw_tbl := List.mem_of_getElem? (i := 247) (by decide +kernel)
set_option maxRecDepth 100000 in
theorem lw_n10 : Cond.methodLinkNest RX1 17 yX0_init "CourseHouse" ∈ lw_tbl := List.mem_of_getElem? (i := 121) (by decide +kernel)
set_option maxRecDepth 100000 in
theorem lw_w7 : Cond.classLink "CourseHouseLaw" 7 RX6 ∈ lw_tbl := List.mem_of_getElem? (i := 101) (by decide +kernel)
set_option maxRecDepth 100000 in
theorem lw_w9 : Cond.methodLink "CourseHouseLaw" 9 yX6_init ∈ lw_tbl := List.mem_of_getElem? (i := 103) (by decide +kernel)
set_option maxRecDepth 100000 in
theorem lw_w10 : Cond.classLink "CourseHouseLaw" 10 RX7 ∈ lw_tbl := List.mem_of_getElem? (i := 852) (by decide +kernel)
set_option maxRecDepth 100000 in
theorem lw_w12 : Cond.methodLink "CourseHouseLaw" 12 yX7_init ∈ lw_tbl := List.mem_of_getElem? (i := 854) (by decide +kernel)
theorem lw_nest : ∀ q ∈ cn_L, Cond.methodLinkNest q.1 q.2.1 q.2.2 "CourseHouse" ∈ lw_tbl := List.forall_mem_cons.mpr ⟨lw_n61, List.forall_mem_cons.mpr ⟨lw_n62, List.forall_mem_cons.mpr ⟨lw_n60, List.forall_mem_cons.mpr ⟨lw_n65, List.forall_mem_cons.mpr ⟨lw_n10, fun _ h => absurd h List.not_mem_nil⟩⟩⟩⟩⟩
theorem lw_aN (hts : ∀ w ∈ lw_tbl, w.before args s = true) : am_N s := by
  intro q hq hz
  have h := List.all_eq_true.mp am_KLok q hq
  simp only [am_Kok, Bool.and_eq_true, decide_eq_true_eq] at h
  have h2 := h.2
  rw [if_neg hz] at h2
  exact va_Nw.of rfl (hts _ (List.mem_of_getElem? h2))
theorem lw_N (hts : ∀ w ∈ lw_tbl, w.before args s = true) : cn_N s := ⟨lw_aN hts, fun q hq => va_Nw.of rfl (hts _ (lw_nest q hq)), va_AO.of (hts _ lw_q5), va_AO.of (hts _ lw_q3)⟩
theorem lw_sI {ci : Nat} {q : vw_C} (h : vwCl[ci]? = some q) : ∃ n, Cond.instantiable q.1 n ∈ lw_tbl := by
  match ci, h with
  | 0, h => cases h; exact ⟨12, cw_s0⟩
  | 1, h => cases h; exact ⟨10, cw_s1⟩
  | 2, h => cases h; exact ⟨9, cw_s2⟩
  | 3, h => cases h; exact ⟨7, cw_s3⟩
  | 4, h => cases h; exact ⟨6, cw_s5⟩
  | 5, h => cases h; exact ⟨14, cw_s6⟩
  | 6, h => cases h; exact ⟨67, cw_s7⟩
  | k + 7, h => simp [vwCl] at h
theorem lw_KC (hts : ∀ w ∈ lw_tbl, w.before args s = true) : ∃ D : va_G, ∀ (c : Nat) (q : vw_C), vwCl[c]? = some q → u_Kn s q.1 q.2.1 q.2.2 (D.1 c) (D.2 c) := by
  have h : ∀ c : Nat, ∃ x : ClassId × (Nat → Nat), ∀ q : vw_C, vwCl[c]? = some q → u_Kn s q.1 q.2.1 q.2.2 x.1 x.2 := by
    intro c
    cases hz : vwCl[c]? with
    | none => exact ⟨(0, fun _ => 0), fun q h => nomatch h⟩
    | some q0 =>
      obtain ⟨n, hn⟩ := lw_sI hz
      obtain ⟨cC, iS, hk⟩ := u_known hts (am_Call hz).1 (hts _ hn)
      exact ⟨(cC, iS), fun q h => by cases h; exact hk⟩
  exact ⟨(fun c => (Classical.choose (h c)).1, fun c => (Classical.choose (h c)).2), fun c q hq => Classical.choose_spec (h c) q hq⟩
theorem lw_KA1 {t : FieldType} (hts : ∀ w ∈ lw_tbl, w.before args s = true) (h : Cond.arrayClass t ∈ lw_tbl) : ∃ c : ClassId, ArrOfT s c t ∧ s.vm.findClass ("[" ++ t.toString) = some c := by
  obtain ⟨c, k, comp, h1, h2, h3⟩ := Cond.arrayClass_spec (hts _ h)
  exact ⟨c, fun n z => ⟨fun k h => (by cases h), k, h2, comp, h3⟩, h1⟩
theorem lw_KA2 {C : String} (hts : ∀ w ∈ lw_tbl, w.before args s = true) (h : Cond.arrayOver (.object C) ∈ lw_tbl) : ∃ c : ClassId, ArrOfT s c (.object C) ∧ va_RA s c (.object C) := by
  obtain ⟨comp, c, k, h1, h2, h3, h4, h5⟩ := Cond.arrayOver_spec (hts _ h)
  exact ⟨c, fun n z => ⟨fun k h => (by cases h), k, h3, comp, h4⟩, k, comp, h3, h4, h1, h5⟩
theorem lw_KA (hts : ∀ w ∈ lw_tbl, w.before args s = true) : ∃ cA : Nat → ClassId, ∀ k, k < 6 → ArrOfT s (cA k) (am_aty k) ∧ va_RA s (cA k) (am_aty k) := by
  obtain ⟨c0, a0, b0⟩ := lw_KA1 hts mk_ar_int
  obtain ⟨c1, a1, b1⟩ := lw_KA1 hts mk_ar_byte
  obtain ⟨c2, a2, b2⟩ := lw_KA1 hts mk_ar_boolean
  obtain ⟨c3, a3, b3⟩ := lw_KA1 hts mk_ar_long
  obtain ⟨c4, a4, b4⟩ := lw_KA2 hts lw_q5
  obtain ⟨c5, a5, b5⟩ := lw_KA2 hts lw_q3
  refine ⟨fun k => [c0, c1, c2, c3, c4, c5].getD k 0, fun k hk => ?_⟩
  match k, hk with
  | 0, _ => exact ⟨a0, b0⟩
  | 1, _ => exact ⟨a1, b1⟩
  | 2, _ => exact ⟨a2, b2⟩
  | 3, _ => exact ⟨a3, b3⟩
  | 4, _ => exact ⟨a4, b4⟩
  | 5, _ => exact ⟨a5, b5⟩
theorem lw_K (hts : ∀ w ∈ lw_tbl, w.before args s = true) : ∃ (D : va_G) (cA : Nat → ClassId), va_K D vwCl (am_tys cA) s := by
  obtain ⟨D, hD⟩ := lw_KC hts
  obtain ⟨cA, hA⟩ := lw_KA hts
  refine ⟨D, cA, hD, fun k q hk => ?_⟩
  have hlt : k < 6 := by
    have := (List.getElem?_eq_some_iff.mp hk).1
    simpa [am_tys] using this
  rw [am_tys_at cA hlt] at hk
  cases hk
  exact hA k hlt
end
