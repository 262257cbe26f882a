section
/-! THE MAKER OF ALL: its cells -/
set_option maxRecDepth 100000 in
theorem cw_l65 : Cond.classLink (am_own 6) 13 RX5 ∈ lw_tbl := List.mem_of_getElem? (i := 109) (by decide +kernel)
set_option maxRecDepth 100000 in
theorem cw_l63 : Cond.classLink (am_own 6) 19 RX3 ∈ lw_tbl := List.mem_of_getElem? (i := 111) (by decide +kernel)
set_option maxRecDepth 100000 in
theorem cw_l61 : Cond.classLink (am_own 6) 25 RX1 ∈ lw_tbl := List.mem_of_getElem? (i := 113) (by decide +kernel)
set_option maxRecDepth 100000 in
theorem cw_l62 : Cond.classLink (am_own 6) 32 RX2 ∈ lw_tbl := List.mem_of_getElem? (i := 207) (by decide +kernel)
set_option maxRecDepth 100000 in
theorem cw_l60 : Cond.classLink (am_own 6) 39 RX0 ∈ lw_tbl := List.mem_of_getElem? (i := 244) (by decide +kernel)
set_option maxRecDepth 100000 in
theorem cw_m63 : Cond.methodLink (am_own 6) 50 yX3_init ∈ lw_tbl := List.mem_of_getElem? (i := 275) (by decide +kernel)
def ly6_l : List (Nat ⊕ (Nat × Nat)) := [.inl 5, .inr (0, 6), .inr (4, 10), .inr (5, 60), .inl 1, .inr (1, 600), .inl 0, .inr (0, 12), .inr (0, 12), .inr (0, 12), .inr (0, 12), .inr (0, 12), .inr (0, 12), .inr (0, 1200), .inr (0, 1200), .inr (0, 1200), .inr (0, 601), .inr (0, 601), .inr (0, 601), .inl 2, .inr (3, 22), .inr (3, 22), .inr (3, 602), .inr (0, 10), .inr (0, 3), .inr (0, 3), .inl 0, .inr (0, 12), .inr (0, 12), .inr (0, 12), .inr (0, 12), .inr (0, 12), .inr (0, 12), .inr (0, 1200), .inr (0, 1200), .inr (0, 1200), .inr (0, 8), .inl 4, .inl 4, .inl 4, .inl 4, .inl 4, .inl 4, .inl 4, .inl 4, .inl 4, .inl 4]
def ly6 : Nat → Nat ⊕ (Nat × Nat) := fun o => if o < 47 then ly6_l.getD o (.inr (99, 0)) else if o < 287 then ly3 ((o - 47) % 4) else .inr (99, 0)
def rk6 : List (Nat × List (Option Nat)) := [(0, [some 1, some 2, some 3, some 4, some 19, some 26, some 36]), (4, [some 5, none, some 6, some 16, some 17, some 18]), (6, [none, none, none, some 7, some 8, some 9, some 10, some 11, some 12, some 13, some 14, some 15]), (19, [some 20, some 21, some 22, some 23, some 24, some 25]), (26, [none, none, none, some 27, some 28, some 29, some 30, some 31, some 32, some 33, some 34, some 35]), (2, [some 37, some 38, some 39, some 40, some 41, some 42, some 43, some 44, some 45, some 46]), (3, [some 47, some 51, some 55, some 59, some 63, some 67, some 71, some 75, some 79, some 83, some 87, some 91, some 95, some 99, some 103, some 107, some 111, some 115, some 119, some 123, some 127, some 131, some 135, some 139, some 143, some 147, some 151, some 155, some 159, some 163, some 167, some 171, some 175, some 179, some 183, some 187, some 191, some 195, some 199, some 203, some 207, some 211, some 215, some 219, some 223, some 227, some 231, some 235, some 239, some 243, some 247, some 251, some 255, some 259, some 263, some 267, some 271, some 275, some 279, some 283])] ++ (List.range 60).map (fun w => (47 + 4 * w, [none, none, none, none, some (48 + 4 * w), some (49 + 4 * w), some (50 + 4 * w)]))
def chI : Nat → Nat → Int32 := fun o => if o < 4 then (fun _ => 0) else if o < 19 then rdr0.1 (o - 4) else if o < 37 then (fun _ => 0) else if o < 47 then wk0.1 0 else if o < 287 then sh0.1 ((o - 47) % 4) else fun _ => 0
def chS (n : Nat) : am_HS := ck chI (rkT rk6) n
theorem ly6_s {w i : Nat} (hw : w < 60) (hi : i < 4) : ly6 (47 + 4 * w + i) = ly3 i := by
  unfold ly6
  rw [if_neg (by omega), if_pos (by omega), show (47 + 4 * w + i - 47) % 4 = i by omega]
theorem ly6_w {w : Nat} (hw : w < 10) : ly6 (37 + w) = .inl 4 := by
  have h : ∀ w, w < 10 → ly6 (37 + w) = .inl 4 := by decide +kernel
  exact h w hw
theorem chI_r : ∀ i, i < 15 → chI (4 + i) = rdr0.1 i := fun i hi => by
  unfold chI
  rw [if_neg (by omega), if_pos (by omega), show 4 + i - 4 = i by omega]
theorem chI_k : ∀ i, i < 7 → chI (19 + i) = fun _ => 0 := fun i hi => by
  unfold chI
  rw [if_neg (by omega), if_neg (by omega), if_pos (by omega)]
theorem chI_b : ∀ i, i < 10 → chI (26 + i) = fun _ => 0 := fun i hi => by
  unfold chI
  rw [if_neg (by omega), if_neg (by omega), if_pos (by omega)]
theorem chI_w {w : Nat} (hw : w < 10) : chI (37 + w) = wk0.1 0 := by
  unfold chI
  rw [if_neg (by omega), if_neg (by omega), if_neg (by omega), if_pos (by omega)]
theorem chI_s {w i : Nat} (hw : w < 60) (hi : i < 4) : chI (47 + 4 * w + i) = sh0.1 i := by
  unfold chI
  rw [if_neg (by omega), if_neg (by omega), if_neg (by omega), if_neg (by omega), if_pos (by omega), show (47 + 4 * w + i - 47) % 4 = i by omega]
theorem rk6_2 : ∀ w, w < 10 → rkT rk6 2 w = some (37 + w) := by decide +kernel
theorem rk6_3 : ∀ w, w < 60 → rkT rk6 3 w = some (47 + 4 * w) := by decide +kernel
theorem rk6_w : ∀ w, w < 10 → rkO rk6 (37 + w) = [] := by decide +kernel
theorem rk6_s : ∀ w, w < 60 → ∀ i, i < 4 → rkO rk6 (47 + 4 * w + i) = (rkO rk3 i).map (Option.map (fun x => 47 + 4 * w + x)) := by decide +kernel
theorem rk6_uw : ∀ w, w < 10 → (rk_all rk6).all (fun q => decide (37 + w ≤ q.1) || (decide (q.2.2 < 37 + w) || (decide (37 + w + 1 ≤ q.2.2) || (q.1 == 2 && q.2.1 == w)))) = true := by decide +kernel
theorem rk6_us : ∀ w, w < 60 → (rk_all rk6).all (fun q => decide (47 + 4 * w ≤ q.1) || (decide (q.2.2 < 47 + 4 * w) || (decide (47 + 4 * w + 4 ≤ q.2.2) || (q.1 == 3 && q.2.1 == w)))) = true := by decide +kernel
end
