section
/-! THE CLASS AS MADE: its cells in the calls' order -/
variable {D : va_G} {cA : Nat → ClassId} {A : Nat → Prop}
def pi6_l : List Nat := [0, 1, 2, 3, 4, 19, 26, 6, 36, 5, 16, 17, 18, 20, 21, 22, 23, 24, 25, 27, 28, 29, 30, 31, 32, 33, 34, 35, 7, 8, 9, 10, 11, 12, 13, 14, 15]
def pi6 (o : Nat) : Nat := if o < 37 then pi6_l.getD o 0 else o
def pv6_l : List Nat := [0, 1, 2, 3, 4, 9, 7, 28, 29, 30, 31, 32, 33, 34, 35, 36, 10, 11, 12, 5, 13, 14, 15, 16, 17, 18, 6, 19, 20, 21, 22, 23, 24, 25, 26, 27, 8]
def pv6 (o : Nat) : Nat := if o < 37 then pv6_l.getD o 0 else o
theorem pi6_v : ∀ o, o < 37 → pv6 (pi6 o) = o ∧ pi6 o < 37 := by decide +kernel
theorem pi6_h {o : Nat} (h : 37 ≤ o) : pi6 o = o := if_neg (by omega)
theorem pv6_h {o : Nat} (h : 37 ≤ o) : pv6 o = o := if_neg (by omega)
theorem pi6_lt {o : Nat} (h : o < 287) : pi6 o < 287 := by
  by_cases z : o < 37
  · have := (pi6_v o z).2
    omega
  · rw [pi6_h (by omega)]
    exact h
theorem pi6_vv (o : Nat) : pv6 (pi6 o) = o := by
  by_cases z : o < 37
  · exact (pi6_v o z).1
  · rw [pi6_h (by omega), pv6_h (by omega)]
theorem pi6_i {o o' : Nat} (h : pi6 o = pi6 o') : o = o' := by rw [← pi6_vv o, h, pi6_vv]
def sg0 : am_HS := (fun o => chI (pi6 o), fun _ _ => 0, cH 0)
theorem pi6_ly0 : ∀ o, o < 47 → lc o = ly6 (pi6 o) := by decide +kernel
theorem ly3_4 : ∀ i, i < 4 → ly3 i = (match i with
  | 0 => .inl 3
  | 1 => .inr (0, 3)
  | 2 => .inr (0, 3)
  | _ => .inr (0, 6)) := by decide +kernel
theorem pi6_ly {o : Nat} (h : o < 287) : lc o = ly6 (pi6 o) := by
  by_cases z : o < 47
  · exact pi6_ly0 o z
  · rw [pi6_h (by omega)]
    unfold lc ly6
    rw [if_neg (by omega), if_pos h, if_neg (by omega), if_pos h]
    exact (ly3_4 _ (Nat.mod_lt _ (by decide))).symm
theorem gd_hi {α : Type} {L : List α} {k : Nat} {d : α} (h : L.length ≤ k) : L.getD k d = d := by
  rw [List.getD_eq_getElem?_getD, List.getElem?_eq_none h]
  rfl
theorem rk6_60 : (rk_all rk6).all (fun q => decide (q.2.1 < 60)) = true := by decide +kernel
theorem rk6_hi {o k : Nat} (h : 60 ≤ k) : rkT rk6 o k = none := by
  cases hz : rkT rk6 o k with
  | none => rfl
  | some x =>
    have := of_decide_eq_true (List.all_eq_true.mp rk6_60 _ (rk_mem hz))
    have t : k < 60 := this
    omega
theorem cH_hi {o k : Nat} (h : 60 ≤ k) : cH 0 o k = none := by
  unfold cH
  by_cases h0 : o = 0
  · rw [if_pos h0]; exact gd_hi (Nat.le_trans (by decide) h)
  rw [if_neg h0]
  by_cases h4 : o = 4
  · rw [if_pos h4]; exact gd_hi (Nat.le_trans (by decide) h)
  rw [if_neg h4]
  by_cases h5 : o = 5
  · rw [if_pos h5]; exact gd_hi (Nat.le_trans (by decide) h)
  rw [if_neg h5]
  by_cases h6 : o = 6
  · rw [if_pos h6]; exact gd_hi (Nat.le_trans (by decide) h)
  rw [if_neg h6]
  by_cases h7 : o = 7
  · rw [if_pos h7]; exact gd_hi (Nat.le_trans (by decide) h)
  rw [if_neg h7]
  by_cases h2 : o = 2
  · rw [if_pos h2]; exact if_neg (by omega)
  rw [if_neg h2]
  by_cases h3 : o = 3
  · rw [if_pos h3]; exact if_neg (by omega)
  rw [if_neg h3]
  exact if_neg (by omega)
theorem pi6_c0 : ∀ o, o < 47 → ∀ k, k < 60 → (cH 0 o k).map pi6 = rkT rk6 (pi6 o) k := by decide +kernel
theorem rk3_8 : ∀ i, i < 4 → ∀ k, k < 8 → rkT rk3 i k = if i = 0 ∧ 4 ≤ k ∧ k < 7 then some (k - 3) else none := by decide +kernel
theorem rk3_hi8 : (rk_all rk3).all (fun q => decide (q.2.1 < 8)) = true := by decide +kernel
theorem rk3_r {i k : Nat} (hi : i < 4) : rkT rk3 i k = if i = 0 ∧ 4 ≤ k ∧ k < 7 then some (k - 3) else none := by
  by_cases h : k < 8
  · exact rk3_8 i hi k h
  · rw [if_neg (by omega)]
    cases hz : rkT rk3 i k with
    | none => rfl
    | some x =>
      have := of_decide_eq_true (List.all_eq_true.mp rk3_hi8 _ (rk_mem hz))
      have t : k < 8 := this
      omega
theorem pi6_c {o k : Nat} (h : o < 287) : (cH 0 o k).map pi6 = rkT rk6 (pi6 o) k := by
  by_cases hk : k < 60
  · by_cases z : o < 47
    · exact pi6_c0 o z k hk
    · rw [pi6_h (by omega)]
      have hw : (o - 47) / 4 < 60 := by omega
      have hi : (o - 47) % 4 < 4 := Nat.mod_lt _ (by decide)
      have e : 47 + 4 * ((o - 47) / 4) + (o - 47) % 4 = o := by omega
      have r := rk_tr (rk6_s _ hw _ hi) k
      rw [e, rk3_r hi] at r
      rw [r]
      unfold cH
      rw [if_neg (by omega), if_neg (by omega), if_neg (by omega), if_neg (by omega), if_neg (by omega), if_neg (by omega), if_neg (by omega)]
      by_cases y : (o - 47) % 4 = 0 ∧ 4 ≤ k ∧ k < 7
      · rw [if_pos y, if_pos ⟨by omega, by omega, y.1, y.2.1, y.2.2⟩]
        show some (pi6 (o + (k - 3))) = some (47 + 4 * ((o - 47) / 4) + (k - 3))
        rw [pi6_h (by omega)]
        congr 1
        omega
      · rw [if_neg y, if_neg (fun q => y ⟨q.2.2.1, q.2.2.2.1, q.2.2.2.2⟩)]
        rfl
  · rw [cH_hi (by omega), rk6_hi (by omega)]
    rfl
theorem rk6_287 : (rk_all rk6).all (fun q => decide (q.2.2 < 287)) = true := by decide +kernel
theorem chS_2 : (chS 287).2.2 = rkT rk6 := ck_all (rkT_lt rk6_287)
theorem sg_at {ad : Nat → Nat} (k : Nat) (q : Nat × va_E) (h : (am_wl cA (fun o => ad (pi6 o)) lc 287 sg0)[k]? = some q) : (am_wl cA ad ly6 287 (chS 287))[pi6 k]? = some q := by
  have hk := (am_wl_ix h).1
  rw [am_wl_at hk] at h
  rw [am_wl_at (pi6_lt hk), ← h]
  refine congrArg some (Prod.ext rfl (am_ce_cong (pi6_ly hk).symm rfl rfl (fun j => ?_)))
  rw [chS_2]
  show (rkT rk6 (pi6 k) j).map ad = (cH 0 k j).map (fun o => ad (pi6 o))
  rw [← pi6_c hk]
  cases cH 0 k j with
  | none => rfl
  | some x => rfl
theorem sg_P {ad : Nat → Nat} {H : Heap} (h : va_P D vwCl (am_wl cA ad ly6 287 (chS 287)) H) : va_P D vwCl (am_wl cA (fun o => ad (pi6 o)) lc 287 sg0) H := h.by pi6 sg_at
theorem sg_D {ad : Nat → Nat} (h : va_D A (am_wl cA ad ly6 287 (chS 287))) : va_D A (am_wl cA (fun o => ad (pi6 o)) lc 287 sg0) := h.by pi6 sg_at (fun _ _ _ _ e => pi6_i e)
theorem sgI_w {w : Nat} (hw : w < 10) : sg0.1 (37 + w) = wk0.1 0 := by
  show chI (pi6 (37 + w)) = _
  rw [pi6_h (by omega), chI_w hw]
theorem sgI_s {k i : Nat} (hk : k < 60) (hi : i < 4) : sg0.1 (47 + 4 * k + i) = sh0.1 i := by
  show chI (pi6 (47 + 4 * k + i)) = _
  rw [pi6_h (by omega), chI_s hk hi]
theorem wk0_j : ∀ j : Nat, j < 6 → (wk0.1 0 j).toInt = if j = 4 then -1 else 0 := by decide +kernel
theorem sh0_0 : ∀ j : Nat, j < 3 → (sh0.1 0 j).toInt = 0 := by decide +kernel
theorem sh0_3 : -1 ≤ (sh0.1 0 3).toInt ∧ (sh0.1 0 3).toInt ≤ 5 := by decide +kernel
theorem sh0_1 : ∀ j : Nat, j < 3 → (sh0.1 1 j).toInt = 0 := by decide +kernel
theorem sh0_2 : ∀ j : Nat, j < 3 → (sh0.1 2 j).toInt = -1 := by decide +kernel
theorem sh0_p : ∀ j : Nat, j < 6 → (sh0.1 3 j).toInt = -1 := by decide +kernel
theorem SR_00 : SR 0 tau0 sg0 := by
  refine SR_0 tau0_r rfl (fun j h => tau0_o (by decide) (by decide) (by decide) (by decide)) (fun o k _ _ h2 h7 h13 h14 => tau0_o h2 h7 h13 h14) tau0_2 tau0_7 tau0_13 tau0_14 ?_ ?_ ?_ ?_ ?_ ?_ ?_ ?_ ?_ ?_ ?_ ?_ ?_ ?_
  · exact fun j _ _ => rfl
  · show (rdr0.1 0 1).toInt = 0
    decide +kernel
  · exact fun k _ => rfl
  · exact fun j => rfl
  · rfl
  · rfl
  · intro w hw j hj
    show (sg0.1 (37 + w) j).toInt = _
    rw [sgI_w hw]
    exact wk0_j j hj
  · intro k hk j hj
    show (sg0.1 (47 + 4 * k + 0) j).toInt = 0
    rw [sgI_s hk (by decide)]
    exact sh0_0 j hj
  · intro k hk
    have e : hI sg0 (47 + 4 * k) 3 = (sh0.1 0 3).toInt := by
      show (sg0.1 (47 + 4 * k + 0) 3).toInt = _
      rw [sgI_s hk (by decide)]
    rw [e]
    exact sh0_3
  · intro k hk j hj
    show (sg0.1 (48 + 4 * k) j).toInt = 0
    rw [show 48 + 4 * k = 47 + 4 * k + 1 by omega, sgI_s hk (by decide)]
    exact sh0_1 j hj
  · intro k hk j hj
    show (sg0.1 (49 + 4 * k) j).toInt = -1
    rw [show 49 + 4 * k = 47 + 4 * k + 2 by omega, sgI_s hk (by decide)]
    exact sh0_2 j hj
  · intro k hk j hj
    show (sg0.1 (50 + 4 * k) j).toInt = -1
    rw [show 50 + 4 * k = 47 + 4 * k + 3 by omega, sgI_s hk (by decide)]
    exact sh0_p j hj
  · rfl
  · exact fun a _ => rfl
end
