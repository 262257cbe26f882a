/-! THE REFERENCE: 'range' -/
abbrev Acc := Option ((Int × Int) × (Int × Int))
def accS (a : Acc) (v : Vl) : Acc := match v with
  | some (some q) => (match a with
    | none => some (q, q)
    | some b => some (if q.1 * b.1.2 < b.1.1 * q.2 then q else b.1, if b.2.1 * q.2 < q.1 * b.2.2 then q else b.2))
  | _ => a
def okP (q : Int × Int) : Prop := -1000000000 ≤ q.1 ∧ q.1 ≤ 1000000000 ∧ 1 ≤ q.2 ∧ q.2 ≤ 1000000000
def accO (a : Acc) : Prop := match a with
  | none => True
  | some b => okP b.1 ∧ okP b.2
theorem accO_S {a : Acc} {v : Vl} (h : accO a) (hv : vok v) : accO (accS a v) := by
  rcases v with _ | _ | q
  · exact h
  · exact h
  · obtain ⟨v1, v2, v3, v4, -⟩ := hv
    have hq : okP q := ⟨v1, v2, v3, v4⟩
    rcases a with _ | b
    · exact ⟨hq, hq⟩
    · unfold accS
      refine ⟨?_, ?_⟩
      · dsimp only
        split
        · exact hq
        · exact h.1
      · dsimp only
        split
        · exact hq
        · exact h.2
/-- the range as the cells keep it -/
def Ac (a : Acc) (s : am_HS) : Prop := match a with
  | none => hI s 0 60 = 0
  | some b => hI s 0 60 = 1 ∧ hL s 0 61 = b.1.1 ∧ hL s 0 62 = b.1.2 ∧ hL s 0 63 = b.2.1 ∧ hL s 0 64 = b.2.2
theorem EvT.L {σ s : am_HS} (h : EvT σ s) {j : Nat} (hj : j ≠ 49 ∧ j ≠ 50) : hL s 0 j = hL σ 0 j := by
  rcases h.2.2 0 j with e | e | e | e
  · exact e
  · omega
  · omega
  · omega
theorem Ac.ev {a : Acc} {s u : am_HS} (h : Ac a s) (e : EvT s u) : Ac a u := by
  rcases a with _ | b
  · exact (e.I (by omega) (by omega) (by omega) (by omega)).trans h
  · obtain ⟨h0, h1, h2, h3, h4⟩ := h
    exact ⟨(e.I (by omega) (by omega) (by omega) (by omega)).trans h0, (e.L (by omega)).trans h1, (e.L (by omega)).trans h2, (e.L (by omega)).trans h3, (e.L (by omega)).trans h4⟩
theorem Ac.uI {a : Acc} {s : am_HS} (h : Ac a s) {o k : Nat} {x : Int} (hk : ¬ (o = 0 ∧ k = 60)) : Ac a (uI s o k x) := by
  rcases a with _ | b
  · exact (hI_uI_n (by omega)).trans h
  · obtain ⟨h0, h1⟩ := h
    exact ⟨(hI_uI_n (by omega)).trans h0, h1⟩
theorem Ac.fill {a : Acc} {s : am_HS} (h : Ac a s) {o n : Nat} {x : Int} (hk : o ≠ 0) : Ac a (fillI s o n x) := by
  rcases a with _ | b
  · exact (hI_fill_out (by omega)).trans h
  · obtain ⟨h0, h1⟩ := h
    exact ⟨(hI_fill_out (by omega)).trans h0, h1⟩
/-- the open works, as the cells keep them -/
def OpL (L : List Nat) (s : am_HS) : Prop := hI s 0 66 = (L.length : Int) ∧ ∀ i, i < L.length → hI s 40 i = ((L.getD i 0 : Nat) : Int)
theorem OpL.ev {L : List Nat} {s u : am_HS} (h : OpL L s) (e : EvT s u) : OpL L u := ⟨(e.I (by omega) (by omega) (by omega) (by omega)).trans h.1, fun i hi => (e.I (by omega) (by omega) (by omega) (by omega)).trans (h.2 i hi)⟩
theorem OpL.uI {L : List Nat} {s : am_HS} (h : OpL L s) {o k : Nat} {x : Int} (hk : ¬ (o = 0 ∧ k = 66) ∧ o ≠ 40) : OpL L (uI s o k x) := ⟨(hI_uI_n (by omega)).trans h.1, fun i hi => (hI_uI_n (by omega)).trans (h.2 i hi)⟩
theorem OpL.fill {L : List Nat} {s : am_HS} (h : OpL L s) {o n : Nat} {x : Int} (hk : o ≠ 0 ∧ o ≠ 40) : OpL L (fillI s o n x) := ⟨(hI_fill_out (by omega)).trans h.1, fun i hi => (hI_fill_out (by omega)).trans (h.2 i hi)⟩
theorem TS.u60 {σ s : am_HS} {p : Nat} {tk : Nat → Int} (h : TS σ p tk s) {x : Int} : TS σ p tk (uI s 0 60 x) := ⟨h.1.tr (FrM_uI (by unfold keepM; omega)), h.2.1, (hI_uI_n (by omega)).trans h.2.2.1, fun w hw => (hI_uI_n (by omega)).trans (h.2.2.2 w hw)⟩
theorem TS.uL {σ s : am_HS} {p : Nat} {tk : Nat → Int} (h : TS σ p tk s) {o k : Nat} {x : Int} : TS σ p tk (uL s o k x) := ⟨h.1.tr (FrM_uL _ _ _ _), h.2⟩
theorem hL_cp {σ τ : am_HS} {o k a b c e : Nat} : hL (uL σ o k (hL τ c e)) a b = if a = o ∧ b = k then hL τ c e else hL σ a b := by
  by_cases h : a = o ∧ b = k
  · rw [if_pos h, h.1, h.2]
    exact hL_uL_e (hL_r _ _ _)
  · rw [if_neg h]
    exact hL_uL_n h
theorem hI_60 {σ : am_HS} : hI (uI σ 0 60 1) 0 60 = 1 := hI_uI_e ⟨by omega, by omega⟩

theorem cm_looks {D : Nat} (hD : 770 ≤ D) (σ : am_HS) (hb : rgM σ) {N n : Nat} {lo hi ρ : Nat → Nat} {ev : Nat → Den} {td : TD} (hR : BK N n lo hi ρ ev td σ) {rv : Nat → (Nat → Int) → Nat → Vl} (hV : ∀ (p : Nat) (tk : Nat → Int), p < 6 → (∀ w, -1 ≤ tk w ∧ tk w ≤ 20) → RV n ev (fun w => mtM σ p w (tk w)) (rv p tk)) {p r : Nat} (hp : p < 6) (hr : r < n) (tk : Nat → Int) (ht : ∀ w, -1 ≤ tk w ∧ tk w ≤ 20) (L : List Nat) (a : Acc) (ha : accO a) (s : am_HS) (hT : TS σ p tk s) (hL0 : OpL L s) (hA : Ac a s) : am_Do lm D mX7_looks s [vR (some 0), vI (r : Int)] (qV fun u => TS σ p tk u ∧ OpL L u ∧ Ac (accS a (rv p tk r)) u) := by
  obtain ⟨d, rfl⟩ : ∃ d, D = d + 1 := ⟨D - 1, by omega⟩
  refine am_enter rfl rfl (Nat.le_of_ble_eq_true rfl) ?_
  have hf := hT.2.1
  rcases a with _ | b
  · have tail : ∀ (q : Int × Int) (s6 : am_HS), TS σ p tk s6 → OpL L s6 → hI s6 0 60 = 0 → hL s6 0 49 = q.1 → hL s6 0 50 = q.2 → hL s6 0 61 = q.1 → hL s6 0 62 = q.2 → rv p tk r = some (some q) → am_Go lm d 7 2 0 cX7_looks 63 [some (vR (some 0)), some (vI (r : Int))] [] s6 (qV fun u => TS σ p tk u ∧ OpL L u ∧ Ac (accS none (rv p tk r)) u) := by
      intro q s6 hT3 hL3 h60 hU hW h61 h62 hq
      have hf := hT3.2.1
      refine g_aload_n dX7_looks_63 rfl ?_
      refine g_getZ dX7_looks_64 tf_7_394 rfl rfl ?_
      refine g_if_eq (tgt := 92) dX7_looks_67 (by decide) (fun c67 => ?_) (fun c67 => ?_)
      · refine g_aload_n dX7_looks_92 rfl ?_
        refine g_aload_n dX7_looks_93 rfl ?_
        refine g_getL dX7_looks_94 tf_7_255 rfl rfl ?_
        refine g_putL dX7_looks_97 tf_7_407 rfl rfl rfl ?_
        refine g_aload_n dX7_looks_100 rfl ?_
        refine g_aload_n dX7_looks_101 rfl ?_
        refine g_getL dX7_looks_102 tf_7_259 rfl rfl ?_
        refine g_putL dX7_looks_105 tf_7_404 rfl rfl rfl ?_
        refine g_aload_n dX7_looks_108 rfl ?_
        refine g_iconst dX7_looks_109 ⟨by decide, by decide⟩ ?_
        refine g_putZ dX7_looks_110 tf_7_394 rfl rfl rfl (by omega) ?_
        refine g_return dX7_looks_113 rfl ⟨rfl, ?_⟩
        refine ⟨((hT3.uL).uL).u60, OpL.uI (by exact hL3) (by omega), ?_⟩
        rw [hq]
        refine ⟨hI_60, ?_, ?_, ?_, ?_⟩
        · (rw [hL_uI, hL_uL_n (by omega), hL_uL_n (by omega)]; exact h61)
        · (rw [hL_uI, hL_uL_n (by omega), hL_uL_n (by omega)]; exact h62)
        · (rw [hL_uI, hL_uL_n (by omega), hL_uL_e (hL_r _ _ _)]; exact hU)
        · (rw [hL_uI, hL_uL_e (hL_r _ _ _), hL_uL_n (by omega)]; exact hW)
      · exfalso; omega
    refine g_aload_n dX7_looks_0 rfl ?_
    refine g_callvV dX7_looks_1 tm_7_330 rfl ⟨rfl, rfl⟩ rfl (Nat.le_of_ble_eq_true rfl) (cm_forgets (by omega) _ hf) (fun s1 h1 => ?_)
    obtain rfl := h1
    refine g_aload_n dX7_looks_4 rfl ?_
    refine g_iload_n dX7_looks_5 rfl ?_
    refine g_callvV dX7_looks_6 tm_7_249 rfl ⟨rfl, rfl⟩ rfl (Nat.le_of_ble_eq_true rfl) (cm_try (by omega) hR hb hp ht (hV p _ hp ht) hr _ hT) (fun s6 h6 => ?_)
    obtain ⟨e6, hT3, hv1⟩ := h6
    have hf := hT3.2.1
    have hok := (hV p _ hp ht).2.2 r
    have hA3 := (hA.fill (o := 33) (n := 12) (x := -1) (by omega)).ev e6
    have hL3 := (hL0.fill (o := 33) (n := 12) (x := -1) (by omega)).ev e6
    refine g_aload_n dX7_looks_9 rfl ?_
    refine g_getI dX7_looks_10 tf_7_252 rfl rfl ?_
    refine g_iconst dX7_looks_13 ⟨by decide, by decide⟩ ?_
    refine g_icmp_eq (tgt := 18) dX7_looks_14 (by decide) (fun c14 => ?_) (fun c14 => ?_)
    · obtain ⟨q, hq⟩ : ∃ q, rv p tk r = some (some q) := by
        rcases hx : rv p tk r with _ | _ | q
        · rw [hx] at hv1
          have h0 : hI s6 0 48 = 0 := hv1
          omega
        · rw [hx] at hv1
          have h0 : hI s6 0 48 = 2 := hv1
          omega
        · exact ⟨q, rfl⟩
      rw [hq] at hv1 hok
      obtain ⟨-, hU, hW⟩ := hv1
      obtain ⟨k1, k2, k3, k4, -⟩ := hok
      have h60 : hI s6 0 60 = 0 := hA3
      refine g_aload_n dX7_looks_18 rfl ?_
      refine g_getZ dX7_looks_19 tf_7_394 rfl rfl ?_
      refine g_if_eq (tgt := 47) dX7_looks_22 (by decide) (fun c22 => ?_) (fun c22 => ?_)
      · refine g_aload_n dX7_looks_47 rfl ?_
        refine g_aload_n dX7_looks_48 rfl ?_
        refine g_getL dX7_looks_49 tf_7_255 rfl rfl ?_
        refine g_putL dX7_looks_52 tf_7_401 rfl rfl rfl ?_
        refine g_aload_n dX7_looks_55 rfl ?_
        refine g_aload_n dX7_looks_56 rfl ?_
        refine g_getL dX7_looks_57 tf_7_259 rfl rfl ?_
        refine g_putL dX7_looks_60 tf_7_398 rfl rfl rfl ?_
        refine tail q _ ((hT3.uL).uL) hL3 (by exact h60) ?_ ?_ ?_ ?_ hq
        · (rw [hL_uL_n (by omega), hL_uL_n (by omega)]; exact hU)
        · (rw [hL_uL_n (by omega), hL_uL_n (by omega)]; exact hW)
        · (rw [hL_uL_n (by omega), hL_uL_e (hL_r _ _ _)]; exact hU)
        · (rw [hL_uL_e (hL_r _ _ _), hL_uL_n (by omega)]; exact hW)
      · exfalso; omega
    · refine g_return dX7_looks_17 rfl ⟨rfl, ?_⟩
      refine ⟨hT3, hL3, ?_⟩
      have e : accS none (rv p tk r) = none := by
        rcases hx : rv p tk r with _ | _ | q
        · rfl
        · rfl
        · rw [hx] at hv1
          exact absurd hv1.1 (by omega)
      rw [e]
      exact hA3
  · have tail : ∀ (q l : Int × Int) (s6 : am_HS), okP q → TS σ p tk s6 → OpL L s6 → hI s6 0 60 = 1 → hL s6 0 49 = q.1 → hL s6 0 50 = q.2 → hL s6 0 61 = l.1 → hL s6 0 62 = l.2 → hL s6 0 63 = b.2.1 → hL s6 0 64 = b.2.2 → accS (some b) (rv p tk r) = some (l, if b.2.1 * q.2 < q.1 * b.2.2 then q else b.2) → am_Go lm d 7 2 0 cX7_looks 63 [some (vR (some 0)), some (vI (r : Int))] [] s6 (qV fun u => TS σ p tk u ∧ OpL L u ∧ Ac (accS (some b) (rv p tk r)) u) := by
      intro q l s6 hk hT3 hL3 h60 hU hW h61 h62 h63 h64 hq
      obtain ⟨k1, k2, k3, k4⟩ := hk
      obtain ⟨⟨a1, a2, a3, a4⟩, a5, a6, a7, a8⟩ := id ha
      have hf := hT3.2.1
      have g3 := mul_b2 (M := 1000000000) (N := 1000000000) (x := q.1) (y := b.2.2) (by omega) (by omega)
      have g4 := mul_b2 (M := 1000000000) (N := 1000000000) (x := b.2.1) (y := q.2) (by omega) (by omega)
      refine g_aload_n dX7_looks_63 rfl ?_
      refine g_getZ dX7_looks_64 tf_7_394 rfl rfl ?_
      refine g_if_eq (tgt := 92) dX7_looks_67 (by decide) (fun c67 => ?_) (fun c67 => ?_)
      · exfalso; omega
      · refine g_aload_n dX7_looks_70 rfl ?_
        refine g_getL dX7_looks_71 tf_7_255 rfl rfl ?_
        refine g_aload_n dX7_looks_74 rfl ?_
        refine g_getL dX7_looks_75 tf_7_404 rfl rfl ?_
        rw [hU, h64]
        refine g_lmul dX7_looks_78 rfl ⟨by omega, by omega⟩ ?_
        refine g_aload_n dX7_looks_79 rfl ?_
        refine g_getL dX7_looks_80 tf_7_407 rfl rfl ?_
        refine g_aload_n dX7_looks_83 rfl ?_
        refine g_getL dX7_looks_84 tf_7_259 rfl rfl ?_
        rw [h63, hW]
        refine g_lmul dX7_looks_87 rfl ⟨by omega, by omega⟩ ?_
        refine g_lc_le (tgt := 108) dX7_looks_88 dX7_looks_89 (by decide) (fun c89 => ?_) (fun c89 => ?_)
        · refine g_aload_n dX7_looks_108 rfl ?_
          refine g_iconst dX7_looks_109 ⟨by decide, by decide⟩ ?_
          refine g_putZ dX7_looks_110 tf_7_394 rfl rfl rfl (by omega) ?_
          refine g_return dX7_looks_113 rfl ⟨rfl, ?_⟩
          first
            | (refine ⟨((hT3.uL).uL).u60, OpL.uI (by exact hL3) (by omega), ?_⟩
               have dd : (if b.2.1 * q.2 < q.1 * b.2.2 then q else b.2) = q := if_pos (by omega)
               rw [hq, dd]
               refine ⟨hI_60, ?_, ?_, ?_, ?_⟩
               · (rw [hL_uI, hL_uL_n (by omega), hL_uL_n (by omega)]; exact h61)
               · (rw [hL_uI, hL_uL_n (by omega), hL_uL_n (by omega)]; exact h62)
               · (rw [hL_uI, hL_uL_n (by omega), hL_uL_e (hL_r _ _ _)]; exact hU)
               · (rw [hL_uI, hL_uL_e (hL_r _ _ _), hL_uL_n (by omega)]; exact hW))
            | (refine ⟨hT3.u60, OpL.uI hL3 (by omega), ?_⟩
               have dd : (if b.2.1 * q.2 < q.1 * b.2.2 then q else b.2) = b.2 := if_neg (by omega)
               rw [hq, dd]
               exact ⟨hI_60, h61, h62, h63, h64⟩)
        · refine g_aload_n dX7_looks_92 rfl ?_
          refine g_aload_n dX7_looks_93 rfl ?_
          refine g_getL dX7_looks_94 tf_7_255 rfl rfl ?_
          refine g_putL dX7_looks_97 tf_7_407 rfl rfl rfl ?_
          refine g_aload_n dX7_looks_100 rfl ?_
          refine g_aload_n dX7_looks_101 rfl ?_
          refine g_getL dX7_looks_102 tf_7_259 rfl rfl ?_
          refine g_putL dX7_looks_105 tf_7_404 rfl rfl rfl ?_
          refine g_aload_n dX7_looks_108 rfl ?_
          refine g_iconst dX7_looks_109 ⟨by decide, by decide⟩ ?_
          refine g_putZ dX7_looks_110 tf_7_394 rfl rfl rfl (by omega) ?_
          refine g_return dX7_looks_113 rfl ⟨rfl, ?_⟩
          first
            | (refine ⟨((hT3.uL).uL).u60, OpL.uI (by exact hL3) (by omega), ?_⟩
               have dd : (if b.2.1 * q.2 < q.1 * b.2.2 then q else b.2) = q := if_pos (by omega)
               rw [hq, dd]
               refine ⟨hI_60, ?_, ?_, ?_, ?_⟩
               · (rw [hL_uI, hL_uL_n (by omega), hL_uL_n (by omega)]; exact h61)
               · (rw [hL_uI, hL_uL_n (by omega), hL_uL_n (by omega)]; exact h62)
               · (rw [hL_uI, hL_uL_n (by omega), hL_uL_e (hL_r _ _ _)]; exact hU)
               · (rw [hL_uI, hL_uL_e (hL_r _ _ _), hL_uL_n (by omega)]; exact hW))
            | (refine ⟨hT3.u60, OpL.uI hL3 (by omega), ?_⟩
               have dd : (if b.2.1 * q.2 < q.1 * b.2.2 then q else b.2) = b.2 := if_neg (by omega)
               rw [hq, dd]
               exact ⟨hI_60, h61, h62, h63, h64⟩)
    refine g_aload_n dX7_looks_0 rfl ?_
    refine g_callvV dX7_looks_1 tm_7_330 rfl ⟨rfl, rfl⟩ rfl (Nat.le_of_ble_eq_true rfl) (cm_forgets (by omega) _ hf) (fun s1 h1 => ?_)
    obtain rfl := h1
    refine g_aload_n dX7_looks_4 rfl ?_
    refine g_iload_n dX7_looks_5 rfl ?_
    refine g_callvV dX7_looks_6 tm_7_249 rfl ⟨rfl, rfl⟩ rfl (Nat.le_of_ble_eq_true rfl) (cm_try (by omega) hR hb hp ht (hV p _ hp ht) hr _ hT) (fun s6 h6 => ?_)
    obtain ⟨e6, hT3, hv1⟩ := h6
    have hf := hT3.2.1
    have hok := (hV p _ hp ht).2.2 r
    have hA3 := (hA.fill (o := 33) (n := 12) (x := -1) (by omega)).ev e6
    have hL3 := (hL0.fill (o := 33) (n := 12) (x := -1) (by omega)).ev e6
    refine g_aload_n dX7_looks_9 rfl ?_
    refine g_getI dX7_looks_10 tf_7_252 rfl rfl ?_
    refine g_iconst dX7_looks_13 ⟨by decide, by decide⟩ ?_
    refine g_icmp_eq (tgt := 18) dX7_looks_14 (by decide) (fun c14 => ?_) (fun c14 => ?_)
    · obtain ⟨q, hq⟩ : ∃ q, rv p tk r = some (some q) := by
        rcases hx : rv p tk r with _ | _ | q
        · rw [hx] at hv1
          have h0 : hI s6 0 48 = 0 := hv1
          omega
        · rw [hx] at hv1
          have h0 : hI s6 0 48 = 2 := hv1
          omega
        · exact ⟨q, rfl⟩
      rw [hq] at hv1 hok
      obtain ⟨-, hU, hW⟩ := hv1
      obtain ⟨k1, k2, k3, k4, -⟩ := hok
      obtain ⟨⟨a1, a2, a3, a4⟩, a5, a6, a7, a8⟩ := id ha
      obtain ⟨h60, h61, h62, h63, h64⟩ := id hA3
      refine g_aload_n dX7_looks_18 rfl ?_
      refine g_getZ dX7_looks_19 tf_7_394 rfl rfl ?_
      refine g_if_eq (tgt := 47) dX7_looks_22 (by decide) (fun c22 => ?_) (fun c22 => ?_)
      · exfalso; omega
      · refine g_aload_n dX7_looks_25 rfl ?_
        refine g_getL dX7_looks_26 tf_7_255 rfl rfl ?_
        refine g_aload_n dX7_looks_29 rfl ?_
        refine g_getL dX7_looks_30 tf_7_398 rfl rfl ?_
        rw [hU, h62]
        have g1 := mul_b2 (M := 1000000000) (N := 1000000000) (x := q.1) (y := b.1.2) (by omega) (by omega)
        refine g_lmul dX7_looks_33 rfl ⟨by omega, by omega⟩ ?_
        refine g_aload_n dX7_looks_34 rfl ?_
        refine g_getL dX7_looks_35 tf_7_401 rfl rfl ?_
        refine g_aload_n dX7_looks_38 rfl ?_
        refine g_getL dX7_looks_39 tf_7_259 rfl rfl ?_
        rw [h61, hW]
        have g2 := mul_b2 (M := 1000000000) (N := 1000000000) (x := b.1.1) (y := q.2) (by omega) (by omega)
        refine g_lmul dX7_looks_42 rfl ⟨by omega, by omega⟩ ?_
        refine g_lc_ge (tgt := 63) dX7_looks_43 dX7_looks_44 (by decide) (fun c44 => ?_) (fun c44 => ?_)
        · first
            | (refine tail q b.1 s6 ⟨k1, k2, k3, k4⟩ hT3 hL3 h60 hU hW h61 h62 h63 h64 ?_
               have dd : (if q.1 * b.1.2 < b.1.1 * q.2 then q else b.1) = b.1 := if_neg (by omega)
               rw [hq]
               unfold accS
               dsimp only
               rw [dd])
            | (refine tail q q _ ⟨k1, k2, k3, k4⟩ ((hT3.uL).uL) hL3 (by exact h60) ?_ ?_ ?_ ?_ ?_ ?_ ?_
               · (rw [hL_uL_n (by omega), hL_uL_n (by omega)]; exact hU)
               · (rw [hL_uL_n (by omega), hL_uL_n (by omega)]; exact hW)
               · (rw [hL_uL_n (by omega), hL_uL_e (hL_r _ _ _)]; exact hU)
               · (rw [hL_uL_e (hL_r _ _ _), hL_uL_n (by omega)]; exact hW)
               · (rw [hL_uL_n (by omega), hL_uL_n (by omega)]; exact h63)
               · (rw [hL_uL_n (by omega), hL_uL_n (by omega)]; exact h64)
               · have dd : (if q.1 * b.1.2 < b.1.1 * q.2 then q else b.1) = q := if_pos (by omega)
                 rw [hq]
                 unfold accS
                 dsimp only
                 rw [dd])
        · refine g_aload_n dX7_looks_47 rfl ?_
          refine g_aload_n dX7_looks_48 rfl ?_
          refine g_getL dX7_looks_49 tf_7_255 rfl rfl ?_
          refine g_putL dX7_looks_52 tf_7_401 rfl rfl rfl ?_
          refine g_aload_n dX7_looks_55 rfl ?_
          refine g_aload_n dX7_looks_56 rfl ?_
          refine g_getL dX7_looks_57 tf_7_259 rfl rfl ?_
          refine g_putL dX7_looks_60 tf_7_398 rfl rfl rfl ?_
          first
            | (refine tail q b.1 s6 ⟨k1, k2, k3, k4⟩ hT3 hL3 h60 hU hW h61 h62 h63 h64 ?_
               have dd : (if q.1 * b.1.2 < b.1.1 * q.2 then q else b.1) = b.1 := if_neg (by omega)
               rw [hq]
               unfold accS
               dsimp only
               rw [dd])
            | (refine tail q q _ ⟨k1, k2, k3, k4⟩ ((hT3.uL).uL) hL3 (by exact h60) ?_ ?_ ?_ ?_ ?_ ?_ ?_
               · (rw [hL_uL_n (by omega), hL_uL_n (by omega)]; exact hU)
               · (rw [hL_uL_n (by omega), hL_uL_n (by omega)]; exact hW)
               · (rw [hL_uL_n (by omega), hL_uL_e (hL_r _ _ _)]; exact hU)
               · (rw [hL_uL_e (hL_r _ _ _), hL_uL_n (by omega)]; exact hW)
               · (rw [hL_uL_n (by omega), hL_uL_n (by omega)]; exact h63)
               · (rw [hL_uL_n (by omega), hL_uL_n (by omega)]; exact h64)
               · have dd : (if q.1 * b.1.2 < b.1.1 * q.2 then q else b.1) = q := if_pos (by omega)
                 rw [hq]
                 unfold accS
                 dsimp only
                 rw [dd])
    · refine g_return dX7_looks_17 rfl ⟨rfl, ?_⟩
      refine ⟨hT3, hL3, ?_⟩
      have e : accS (some b) (rv p tk r) = (some b) := by
        rcases hx : rv p tk r with _ | _ | q
        · rfl
        · rfl
        · rw [hx] at hv1
          exact absurd hv1.1 (by omega)
      rw [e]
      exact hA3
