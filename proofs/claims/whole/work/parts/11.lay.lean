/-! LAYOUTS -/
section LAYROWS
variable {lay : am_L} {d c nL rt : Nat} {bb : ByteArray} {pc : Nat} {lv : am_LV} {st r : List am_V} {σ : am_HS} {Q : Option am_V → am_HS → Prop}
/-- answers: an int, a long, a cell, none -/
def qI (P : Int → am_HS → Prop) : Option am_V → am_HS → Prop := fun r σ1 => ∃ z, r = some (vI z) ∧ P z σ1
def qL (P : Int → am_HS → Prop) : Option am_V → am_HS → Prop := fun r σ1 => ∃ z, r = some (vL z) ∧ P z σ1
def qR (P : Option Nat → am_HS → Prop) : Option am_V → am_HS → Prop := fun r σ1 => ∃ z, r = some (vR z) ∧ P z σ1
def qV (P : am_HS → Prop) : Option am_V → am_HS → Prop := fun r σ1 => r = none ∧ P σ1
theorem g_getA {i o ci k a : Nat} (hd : decode bb pc = .ok (.getfield i, 3)) (h1 : am_T0.1 c i = some (ci, k)) (h2 : lay o = .inl ci) (h3 : am_fty ci k = 3) (hr : hR σ o k = some a) (h : am_Go lay d c nL rt bb (pc + 3) lv (vR (some a) :: st) σ Q) : am_Go lay d c nL rt bb pc lv (vR (some o) :: st) σ Q := g_getR hd h1 h2 h3 (by rw [hr]; exact h)
theorem g_callvI {i mi o np c1 n1 rt1 rc : Nat} {b1 : ByteArray} {as rest : List am_V} {P : Int → am_HS → Prop} (hd : decode bb pc = .ok (.invokevirtual i, 3)) (h1 : am_T0.2.1 c i = some mi) (hM : am_M0 mi = (c1, b1, n1, np, rt1, false, rc)) (hst : st.take np = as ∧ st.drop np = vR (some o) :: rest) (h2 : lay o = .inl rc) (h3 : am_cats rest ≤ 8) (hc : am_Do lay d mi σ (vR (some o) :: as.reverse) (qI P)) (h : ∀ z σ1, P z σ1 → am_Go lay d c nL rt bb (pc + 3) lv (vI z :: rest) σ1 Q) : am_Go lay d c nL rt bb pc lv st σ Q := g_callv hd h1 hM hst h2 h3 hc (fun r σ1 hp => by
  obtain ⟨z, rfl, hp⟩ := hp
  exact h z σ1 hp)
theorem g_callsI {i mi np c1 n1 rt1 rc : Nat} {b1 : ByteArray} {as rest : List am_V} {P : Int → am_HS → Prop} (hd : decode bb pc = .ok (.invokestatic i, 3)) (h1 : am_T0.2.1 c i = some mi) (hM : am_M0 mi = (c1, b1, n1, np, rt1, true, rc)) (hst : np ≤ st.length ∧ st.take np = as ∧ st.drop np = rest) (h3 : am_cats rest ≤ 8) (hc : am_Do lay d mi σ as.reverse (qI P)) (h : ∀ z σ1, P z σ1 → am_Go lay d c nL rt bb (pc + 3) lv (vI z :: rest) σ1 Q) : am_Go lay d c nL rt bb pc lv st σ Q := g_calls hd h1 hM hst h3 hc (fun r σ1 hp => by
  obtain ⟨z, rfl, hp⟩ := hp
  exact h z σ1 hp)
theorem g_callvL {i mi o np c1 n1 rt1 rc : Nat} {b1 : ByteArray} {as rest : List am_V} {P : Int → am_HS → Prop} (hd : decode bb pc = .ok (.invokevirtual i, 3)) (h1 : am_T0.2.1 c i = some mi) (hM : am_M0 mi = (c1, b1, n1, np, rt1, false, rc)) (hst : st.take np = as ∧ st.drop np = vR (some o) :: rest) (h2 : lay o = .inl rc) (h3 : am_cats rest ≤ 8) (hc : am_Do lay d mi σ (vR (some o) :: as.reverse) (qL P)) (h : ∀ z σ1, P z σ1 → am_Go lay d c nL rt bb (pc + 3) lv (vL z :: rest) σ1 Q) : am_Go lay d c nL rt bb pc lv st σ Q := g_callv hd h1 hM hst h2 h3 hc (fun r σ1 hp => by
  obtain ⟨z, rfl, hp⟩ := hp
  exact h z σ1 hp)
theorem g_callsL {i mi np c1 n1 rt1 rc : Nat} {b1 : ByteArray} {as rest : List am_V} {P : Int → am_HS → Prop} (hd : decode bb pc = .ok (.invokestatic i, 3)) (h1 : am_T0.2.1 c i = some mi) (hM : am_M0 mi = (c1, b1, n1, np, rt1, true, rc)) (hst : np ≤ st.length ∧ st.take np = as ∧ st.drop np = rest) (h3 : am_cats rest ≤ 8) (hc : am_Do lay d mi σ as.reverse (qL P)) (h : ∀ z σ1, P z σ1 → am_Go lay d c nL rt bb (pc + 3) lv (vL z :: rest) σ1 Q) : am_Go lay d c nL rt bb pc lv st σ Q := g_calls hd h1 hM hst h3 hc (fun r σ1 hp => by
  obtain ⟨z, rfl, hp⟩ := hp
  exact h z σ1 hp)
theorem g_callvR {i mi o np c1 n1 rt1 rc : Nat} {b1 : ByteArray} {as rest : List am_V} {P : Option Nat → am_HS → Prop} (hd : decode bb pc = .ok (.invokevirtual i, 3)) (h1 : am_T0.2.1 c i = some mi) (hM : am_M0 mi = (c1, b1, n1, np, rt1, false, rc)) (hst : st.take np = as ∧ st.drop np = vR (some o) :: rest) (h2 : lay o = .inl rc) (h3 : am_cats rest ≤ 8) (hc : am_Do lay d mi σ (vR (some o) :: as.reverse) (qR P)) (h : ∀ z σ1, P z σ1 → am_Go lay d c nL rt bb (pc + 3) lv (vR z :: rest) σ1 Q) : am_Go lay d c nL rt bb pc lv st σ Q := g_callv hd h1 hM hst h2 h3 hc (fun r σ1 hp => by
  obtain ⟨z, rfl, hp⟩ := hp
  exact h z σ1 hp)
theorem g_callsR {i mi np c1 n1 rt1 rc : Nat} {b1 : ByteArray} {as rest : List am_V} {P : Option Nat → am_HS → Prop} (hd : decode bb pc = .ok (.invokestatic i, 3)) (h1 : am_T0.2.1 c i = some mi) (hM : am_M0 mi = (c1, b1, n1, np, rt1, true, rc)) (hst : np ≤ st.length ∧ st.take np = as ∧ st.drop np = rest) (h3 : am_cats rest ≤ 8) (hc : am_Do lay d mi σ as.reverse (qR P)) (h : ∀ z σ1, P z σ1 → am_Go lay d c nL rt bb (pc + 3) lv (vR z :: rest) σ1 Q) : am_Go lay d c nL rt bb pc lv st σ Q := g_calls hd h1 hM hst h3 hc (fun r σ1 hp => by
  obtain ⟨z, rfl, hp⟩ := hp
  exact h z σ1 hp)
theorem g_callvV {i mi o np c1 n1 rt1 rc : Nat} {b1 : ByteArray} {as rest : List am_V} {P : am_HS → Prop} (hd : decode bb pc = .ok (.invokevirtual i, 3)) (h1 : am_T0.2.1 c i = some mi) (hM : am_M0 mi = (c1, b1, n1, np, rt1, false, rc)) (hst : st.take np = as ∧ st.drop np = vR (some o) :: rest) (h2 : lay o = .inl rc) (h3 : am_cats rest ≤ 8) (hc : am_Do lay d mi σ (vR (some o) :: as.reverse) (qV P)) (h : ∀ σ1, P σ1 → am_Go lay d c nL rt bb (pc + 3) lv rest σ1 Q) : am_Go lay d c nL rt bb pc lv st σ Q := g_callv hd h1 hM hst h2 h3 hc (fun r σ1 hp => by
  obtain ⟨rfl, hp⟩ := hp
  exact h σ1 hp)
theorem g_callsV {i mi np c1 n1 rt1 rc : Nat} {b1 : ByteArray} {as rest : List am_V} {P : am_HS → Prop} (hd : decode bb pc = .ok (.invokestatic i, 3)) (h1 : am_T0.2.1 c i = some mi) (hM : am_M0 mi = (c1, b1, n1, np, rt1, true, rc)) (hst : np ≤ st.length ∧ st.take np = as ∧ st.drop np = rest) (h3 : am_cats rest ≤ 8) (hc : am_Do lay d mi σ as.reverse (qV P)) (h : ∀ σ1, P σ1 → am_Go lay d c nL rt bb (pc + 3) lv rest σ1 Q) : am_Go lay d c nL rt bb pc lv st σ Q := g_calls hd h1 hM hst h3 hc (fun r σ1 hp => by
  obtain ⟨rfl, hp⟩ := hp
  exact h σ1 hp)
end LAYROWS
section LCROWS
variable {lay : am_L} {d c nL rt : Nat} {bb : ByteArray} {pc : Nat} {lv : am_LV} {st r : List am_V} {σ : am_HS} {Q : Option am_V → am_HS → Prop}
theorem g_lc_eq {x y : Int} {off : Int} {tgt : Nat} (hd1 : decode bb pc = .ok (.lcmp, 1)) (hd : decode bb (pc + 1) = .ok (.ifCond .eq off, 3)) (ht : ((pc + 1 : Nat) : Int) + off = (tgt : Int)) (h1 : x = y → am_Go lay d c nL rt bb tgt lv st σ Q) (h2 : ¬ (x = y) → am_Go lay d c nL rt bb (pc + 1 + 3) lv st σ Q) : am_Go lay d c nL rt bb pc lv (vL y :: vL x :: st) σ Q := by
  have e : (am_lcmp x y = 0) ↔ (x = y) := by
    unfold am_lcmp
    by_cases q1 : y < x
    · rw [if_pos q1]; omega
    · rw [if_neg q1]
      by_cases q2 : x = y
      · rw [if_pos q2]; omega
      · rw [if_neg q2]; omega
  exact g_lcmp hd1 (g_if_eq hd ht (fun q => h1 (e.mp q)) (fun q => h2 (fun z => q (e.mpr z))))
theorem g_lc_ne {x y : Int} {off : Int} {tgt : Nat} (hd1 : decode bb pc = .ok (.lcmp, 1)) (hd : decode bb (pc + 1) = .ok (.ifCond .ne off, 3)) (ht : ((pc + 1 : Nat) : Int) + off = (tgt : Int)) (h1 : ¬ x = y → am_Go lay d c nL rt bb tgt lv st σ Q) (h2 : ¬ (¬ x = y) → am_Go lay d c nL rt bb (pc + 1 + 3) lv st σ Q) : am_Go lay d c nL rt bb pc lv (vL y :: vL x :: st) σ Q := by
  have e : (¬ am_lcmp x y = 0) ↔ (¬ x = y) := by
    unfold am_lcmp
    by_cases q1 : y < x
    · rw [if_pos q1]; omega
    · rw [if_neg q1]
      by_cases q2 : x = y
      · rw [if_pos q2]; omega
      · rw [if_neg q2]; omega
  exact g_lcmp hd1 (g_if_ne hd ht (fun q => h1 (e.mp q)) (fun q => h2 (fun z => q (e.mpr z))))
theorem g_lc_lt {x y : Int} {off : Int} {tgt : Nat} (hd1 : decode bb pc = .ok (.lcmp, 1)) (hd : decode bb (pc + 1) = .ok (.ifCond .lt off, 3)) (ht : ((pc + 1 : Nat) : Int) + off = (tgt : Int)) (h1 : x < y → am_Go lay d c nL rt bb tgt lv st σ Q) (h2 : ¬ (x < y) → am_Go lay d c nL rt bb (pc + 1 + 3) lv st σ Q) : am_Go lay d c nL rt bb pc lv (vL y :: vL x :: st) σ Q := by
  have e : (am_lcmp x y < 0) ↔ (x < y) := by
    unfold am_lcmp
    by_cases q1 : y < x
    · rw [if_pos q1]; omega
    · rw [if_neg q1]
      by_cases q2 : x = y
      · rw [if_pos q2]; omega
      · rw [if_neg q2]; omega
  exact g_lcmp hd1 (g_if_lt hd ht (fun q => h1 (e.mp q)) (fun q => h2 (fun z => q (e.mpr z))))
theorem g_lc_ge {x y : Int} {off : Int} {tgt : Nat} (hd1 : decode bb pc = .ok (.lcmp, 1)) (hd : decode bb (pc + 1) = .ok (.ifCond .ge off, 3)) (ht : ((pc + 1 : Nat) : Int) + off = (tgt : Int)) (h1 : y ≤ x → am_Go lay d c nL rt bb tgt lv st σ Q) (h2 : ¬ (y ≤ x) → am_Go lay d c nL rt bb (pc + 1 + 3) lv st σ Q) : am_Go lay d c nL rt bb pc lv (vL y :: vL x :: st) σ Q := by
  have e : (0 ≤ am_lcmp x y) ↔ (y ≤ x) := by
    unfold am_lcmp
    by_cases q1 : y < x
    · rw [if_pos q1]; omega
    · rw [if_neg q1]
      by_cases q2 : x = y
      · rw [if_pos q2]; omega
      · rw [if_neg q2]; omega
  exact g_lcmp hd1 (g_if_ge hd ht (fun q => h1 (e.mp q)) (fun q => h2 (fun z => q (e.mpr z))))
theorem g_lc_gt {x y : Int} {off : Int} {tgt : Nat} (hd1 : decode bb pc = .ok (.lcmp, 1)) (hd : decode bb (pc + 1) = .ok (.ifCond .gt off, 3)) (ht : ((pc + 1 : Nat) : Int) + off = (tgt : Int)) (h1 : y < x → am_Go lay d c nL rt bb tgt lv st σ Q) (h2 : ¬ (y < x) → am_Go lay d c nL rt bb (pc + 1 + 3) lv st σ Q) : am_Go lay d c nL rt bb pc lv (vL y :: vL x :: st) σ Q := by
  have e : (0 < am_lcmp x y) ↔ (y < x) := by
    unfold am_lcmp
    by_cases q1 : y < x
    · rw [if_pos q1]; omega
    · rw [if_neg q1]
      by_cases q2 : x = y
      · rw [if_pos q2]; omega
      · rw [if_neg q2]; omega
  exact g_lcmp hd1 (g_if_gt hd ht (fun q => h1 (e.mp q)) (fun q => h2 (fun z => q (e.mpr z))))
theorem g_lc_le {x y : Int} {off : Int} {tgt : Nat} (hd1 : decode bb pc = .ok (.lcmp, 1)) (hd : decode bb (pc + 1) = .ok (.ifCond .le off, 3)) (ht : ((pc + 1 : Nat) : Int) + off = (tgt : Int)) (h1 : x ≤ y → am_Go lay d c nL rt bb tgt lv st σ Q) (h2 : ¬ (x ≤ y) → am_Go lay d c nL rt bb (pc + 1 + 3) lv st σ Q) : am_Go lay d c nL rt bb pc lv (vL y :: vL x :: st) σ Q := by
  have e : (am_lcmp x y ≤ 0) ↔ (x ≤ y) := by
    unfold am_lcmp
    by_cases q1 : y < x
    · rw [if_pos q1]; omega
    · rw [if_neg q1]
      by_cases q2 : x = y
      · rw [if_pos q2]; omega
      · rw [if_neg q2]; omega
  exact g_lcmp hd1 (g_if_le hd ht (fun q => h1 (e.mp q)) (fun q => h2 (fun z => q (e.mpr z))))
end LCROWS
section IXROWS
variable {lay : am_L} {d c nL rt : Nat} {bb : ByteArray} {pc : Nat} {lv : am_LV} {st r : List am_V} {σ : am_HS} {Q : Option am_V → am_HS → Prop}
theorem g_ialdN {o N : Nat} {i : Int} (j : Nat) (hd : decode bb pc = .ok (.iaload, 1)) (h1 : lay o = .inr (0, N)) (hj : i = (j : Int)) (h2 : j < N) (h : am_Go lay d c nL rt bb (pc + 1) lv (vI (hI σ o j) :: st) σ Q) : am_Go lay d c nL rt bb pc lv (vI i :: vR (some o) :: st) σ Q := by
  subst hj
  exact g_iald hd h1 ⟨by omega, by omega⟩ (by rw [Int.toNat_natCast]; exact h)
theorem g_baldN {o N : Nat} {i : Int} (j : Nat) (hd : decode bb pc = .ok (.baload, 1)) (h1 : lay o = .inr (1, N)) (hj : i = (j : Int)) (h2 : j < N) (h : am_Go lay d c nL rt bb (pc + 1) lv (vI (hI σ o j) :: st) σ Q) : am_Go lay d c nL rt bb pc lv (vI i :: vR (some o) :: st) σ Q := by
  subst hj
  exact g_bald hd h1 ⟨by omega, by omega⟩ (by rw [Int.toNat_natCast]; exact h)
theorem g_zaldN {o N : Nat} {i : Int} (j : Nat) (hd : decode bb pc = .ok (.baload, 1)) (h1 : lay o = .inr (2, N)) (hj : i = (j : Int)) (h2 : j < N) (h : am_Go lay d c nL rt bb (pc + 1) lv (vI (hI σ o j) :: st) σ Q) : am_Go lay d c nL rt bb pc lv (vI i :: vR (some o) :: st) σ Q := by
  subst hj
  exact g_zald hd h1 ⟨by omega, by omega⟩ (by rw [Int.toNat_natCast]; exact h)
theorem g_laldN {o N : Nat} {i : Int} (j : Nat) (hd : decode bb pc = .ok (.laload, 1)) (h1 : lay o = .inr (3, N)) (hj : i = (j : Int)) (h2 : j < N) (h : am_Go lay d c nL rt bb (pc + 1) lv (vL (hL σ o j) :: st) σ Q) : am_Go lay d c nL rt bb pc lv (vI i :: vR (some o) :: st) σ Q := by
  subst hj
  exact g_lald hd h1 ⟨by omega, by omega⟩ (by rw [Int.toNat_natCast]; exact h)
theorem g_aaldWN {o N : Nat} {i : Int} (j : Nat) (hd : decode bb pc = .ok (.aaload, 1)) (h1 : lay o = .inr (4, N)) (hj : i = (j : Int)) (h2 : j < N) (h : am_Go lay d c nL rt bb (pc + 1) lv (vR (hR σ o j) :: st) σ Q) : am_Go lay d c nL rt bb pc lv (vI i :: vR (some o) :: st) σ Q := by
  subst hj
  exact g_aaldW hd h1 ⟨by omega, by omega⟩ (by rw [Int.toNat_natCast]; exact h)
theorem g_aaldSN {o N : Nat} {i : Int} (j : Nat) (hd : decode bb pc = .ok (.aaload, 1)) (h1 : lay o = .inr (5, N)) (hj : i = (j : Int)) (h2 : j < N) (h : am_Go lay d c nL rt bb (pc + 1) lv (vR (hR σ o j) :: st) σ Q) : am_Go lay d c nL rt bb pc lv (vI i :: vR (some o) :: st) σ Q := by
  subst hj
  exact g_aaldS hd h1 ⟨by omega, by omega⟩ (by rw [Int.toNat_natCast]; exact h)
theorem g_iastN {o N : Nat} {i x : Int} (j : Nat) (hd : decode bb pc = .ok (.iastore, 1)) (h1 : lay o = .inr (0, N)) (hj : i = (j : Int)) (h2 : j < N) (h : am_Go lay d c nL rt bb (pc + 1) lv st (uI σ o j x) Q) : am_Go lay d c nL rt bb pc lv (vI x :: vI i :: vR (some o) :: st) σ Q := by
  subst hj
  exact g_iast hd h1 ⟨by omega, by omega⟩ (by rw [Int.toNat_natCast]; exact h)
theorem g_bastN {o N : Nat} {i x : Int} (j : Nat) (hd : decode bb pc = .ok (.bastore, 1)) (h1 : lay o = .inr (1, N)) (hj : i = (j : Int)) (h2 : j < N) (h5 : -128 ≤ x ∧ x ≤ 127) (h : am_Go lay d c nL rt bb (pc + 1) lv st (uI σ o j x) Q) : am_Go lay d c nL rt bb pc lv (vI x :: vI i :: vR (some o) :: st) σ Q := by
  subst hj
  exact g_bast hd h1 ⟨by omega, by omega⟩ h5 (by rw [Int.toNat_natCast]; exact h)
theorem g_zastN {o N : Nat} {i x : Int} (j : Nat) (hd : decode bb pc = .ok (.bastore, 1)) (h1 : lay o = .inr (2, N)) (hj : i = (j : Int)) (h2 : j < N) (h5 : x = 0 ∨ x = 1) (h : am_Go lay d c nL rt bb (pc + 1) lv st (uI σ o j x) Q) : am_Go lay d c nL rt bb pc lv (vI x :: vI i :: vR (some o) :: st) σ Q := by
  subst hj
  exact g_zast hd h1 ⟨by omega, by omega⟩ h5 (by rw [Int.toNat_natCast]; exact h)
theorem g_lastN {o N : Nat} {i x : Int} (j : Nat) (hd : decode bb pc = .ok (.lastore, 1)) (h1 : lay o = .inr (3, N)) (hj : i = (j : Int)) (h2 : j < N) (h : am_Go lay d c nL rt bb (pc + 1) lv st (uL σ o j x) Q) : am_Go lay d c nL rt bb pc lv (vL x :: vI i :: vR (some o) :: st) σ Q := by
  subst hj
  exact g_last hd h1 ⟨by omega, by omega⟩ (by rw [Int.toNat_natCast]; exact h)
theorem g_lconst0 (hd : decode bb pc = .ok (.lconst 0, 1)) (h : am_Go lay d c nL rt bb (pc + 1) lv (vL 0 :: st) σ Q) : am_Go lay d c nL rt bb pc lv st σ Q := g_lconst hd h
theorem g_lconst1 (hd : decode bb pc = .ok (.lconst 1, 1)) (h : am_Go lay d c nL rt bb (pc + 1) lv (vL 1 :: st) σ Q) : am_Go lay d c nL rt bb pc lv st σ Q := g_lconst hd h
end IXROWS
/-- the reference: cell 0 is its object, then its arrays in the order of its fields -/
def lm_l : List (Nat × Nat) := [(0, 8), (0, 6), (0, 10), (0, 10), (0, 10), (0, 10), (0, 10), (0, 10), (0, 60), (0, 60), (0, 180), (0, 180), (0, 180), (0, 360), (2, 60), (0, 600), (0, 3200), (0, 3200), (0, 3200), (0, 3200), (0, 3200), (2, 3200), (0, 2), (0, 24), (0, 24), (0, 26), (2, 2), (0, 22), (0, 72), (3, 72), (3, 72), (0, 10), (0, 12), (3, 12), (3, 12), (0, 3200), (3, 3200), (3, 3200), (0, 10), (0, 10)]
def lm : am_L := fun o => match o with
  | 0 => .inl 6
  | o + 1 => match lm_l[o]? with
    | some q => .inr q
    | none => .inr (99, 0)
def lm_n : Nat := 41
theorem lm_ok : am_lyok lm lm_n := by
  intro o h
  cases o with
  | zero => simp [lm_n] at h
  | succ o =>
    have : lm_l[o]? = none := List.getElem?_eq_none (by simp [lm_n] at h; simp [lm_l]; omega)
    simp [lm, this]
def mH : Nat → Nat → Option Nat := fun o k => if o = 0 then [some 1, none, none, none, none, none, none, none, some 2, some 3, some 4, some 5, some 6, some 7, some 8, some 9, some 10, some 11, some 12, some 13, some 14, some 15, some 16, none, none, none, none, none, none, none, some 17, some 18, some 19, some 20, some 21, some 22, none, some 23, some 24, some 25, some 26, some 27, none, none, some 28, some 29, some 30, some 31, none, none, none, none, some 32, some 33, some 34, some 35, some 36, some 37, some 38, some 39, none, none, none, none, none, some 40, none].getD k none else none
theorem mrf {σ : am_HS} {o k a : Nat} (h : σ.2.2 = mH) (e : mH o k = some a) : hR σ o k = some a := by rw [← e, ← h]; rfl
abbrev x_refusals : Nat := 1
abbrev x_groups : Nat := 2
abbrev x_kind : Nat := 3
abbrev x_most : Nat := 4
abbrev x_due : Nat := 5
abbrev x_less : Nat := 6
abbrev x_need : Nat := 7
abbrev x_needs : Nat := 8
abbrev x_leave : Nat := 9
abbrev x_many : Nat := 10
abbrev x_when : Nat := 11
abbrev x_who : Nat := 12
abbrev x_mark : Nat := 13
abbrev x_peers : Nat := 14
abbrev x_excused : Nat := 15
abbrev x_text : Nat := 16
abbrev x_op : Nat := 17
abbrev x_number : Nat := 18
abbrev x_part : Nat := 19
abbrev x_beside : Nat := 20
abbrev x_last : Nat := 21
abbrev x_turned : Nat := 22
abbrev x_ruleMany : Nat := 23
abbrev x_ruleName : Nat := 24
abbrev x_ruleNode : Nat := 25
abbrev x_ruleFrom : Nat := 26
abbrev x_hasLess : Nat := 27
abbrev x_hangs : Nat := 28
abbrev x_oldSort : Nat := 29
abbrev x_oldUp : Nat := 30
abbrev x_oldDown : Nat := 31
abbrev x_taken : Nat := 32
abbrev x_ruleSort : Nat := 33
abbrev x_ruleUp : Nat := 34
abbrev x_ruleDown : Nat := 35
abbrev x_nodeSort : Nat := 36
abbrev x_nodeUp : Nat := 37
abbrev x_nodeDown : Nat := 38
abbrev x_sorted : Nat := 39
abbrev x_open : Nat := 40
abbrev f_pupils : Nat := 1
abbrev f_works : Nat := 2
abbrev f_tick : Nat := 3
abbrev f_handed : Nat := 4
abbrev f_marks : Nat := 5
abbrev f_appeals : Nat := 6
abbrev f_refusedTexts : Nat := 7
abbrev f_length : Nat := 23
abbrev f_word : Nat := 24
abbrev f_wordAt : Nat := 25
abbrev f_wordIs : Nat := 26
abbrev f_at : Nat := 27
abbrev f_until : Nat := 28
abbrev f_fault : Nat := 29
abbrev f_nodes : Nat := 36
abbrev f_now : Nat := 42
abbrev f_other : Nat := 43
abbrev f_sort : Nat := 48
abbrev f_up : Nat := 49
abbrev f_down : Nat := 50
abbrev f_pupil : Nat := 51
abbrev f_isAny : Nat := 60
abbrev f_leastUp : Nat := 61
abbrev f_leastDown : Nat := 62
abbrev f_mostUp : Nat := 63
abbrev f_mostDown : Nat := 64
abbrev f_opens : Nat := 66
