/-! THE CLASS: the grammar's small steps -/
theorem adS_o {s : am_HS} {B k r : Nat} {op ar ta : Int} {o j : Nat} (h1 : ¬ ((o = 25 + 9 * B ∨ o = 26 + 9 * B ∨ o = 27 + 9 * B) ∧ j = k)) (h2 : ¬ (o = 6 + B ∧ j = 2)) (h3 : ¬ (o = 21 + 9 * B ∧ j = r)) : hI (adS s B k r op ar ta) o j = hI s o j := by
  unfold adS
  rw [hI_uI_n (by omega), hI_uI_n (by omega), hI_uI_n (by omega), hI_uI_n (by omega), hI_uI_n (by omega)]
theorem ad_ok {tx : Nat → Int} {n W b B r i k : Nat} {s : am_HS} (hx : CX tx n W b B r s) (h : CI W B i k s) (hk : k < 1200) {op ar ta : Int} (ro : rI op) (ra : rI ar) (rt : rI ta) : CX tx n W b B r (adS s B k r op ar ta) ∧ CI W B i (k + 1) (adS s B k r op ar ta) ∧ CF B k s (adS s B k r op ar ta) ∧ cdT (adS s B k r op ar ta) B k = (op, ar, ta) ∧ hI (adS s B k r op ar ta) (21 + 9 * B) r = ((k + 1 : Nat) : Int) := by
  have hsz : hI s (6 + B) 0 = (r : Int) + 1 := hx.2.1
  have hf : CF B k s (adS s B k r op ar ta) := (((((CF.rf B k s).u (by unfold cfP; omega)).u (by unfold cfP; omega)).u (by unfold cfP; omega)).u (by unfold cfP; omega)).u (by unfold cfP; omega)
  obtain ⟨h1, h2, h3, h4, h5, h6⟩ := h
  obtain ⟨x1, x2, x3, x4, x5⟩ := id hx
  refine ⟨hx.of hf, ⟨?_, ?_, ?_, ?_, h5, ?_⟩, hf, ?_, ?_⟩
  · rw [adS_o (by omega) (by omega) (by omega)]; exact h1
  · rw [adS_o (o := 4) (by omega) (by omega) (by omega), adS_o (o := 10) (by omega) (by omega) (by omega)]; exact h2
  · rw [adS_o (o := 4) (by omega) (by omega) (by omega), adS_o (o := 11) (by omega) (by omega) (by omega)]; exact h3
  · rw [adS_o (by omega) (by omega) (by omega)]; exact h4
  · unfold adS
    rw [hI_uI_n (by omega), hI_uI_e ⟨by omega, by omega⟩]
    omega
  · unfold cdT adS
    refine Prod.ext ?_ (Prod.ext ?_ ?_)
    · show hI _ _ _ = op
      rw [hI_uI_n (by omega), hI_uI_n (by omega), hI_uI_n (by omega), hI_uI_n (by omega), hI_uI_e ro]
    · show hI _ _ _ = ar
      rw [hI_uI_n (by omega), hI_uI_n (by omega), hI_uI_n (by omega), hI_uI_e ra]
    · show hI _ _ _ = ta
      rw [hI_uI_n (by omega), hI_uI_n (by omega), hI_uI_e rt]
  · unfold adS
    rw [hI_uI_e ⟨by omega, by omega⟩]
    omega
theorem CF.cd {B k : Nat} {σ s : am_HS} (h : CF B k σ s) (hb : B < 2) {j : Nat} (hj : j < k) : cdT s B j = cdT σ B j := by
  have e1 := h.2 (25 + 9 * B) j (by unfold cfP; omega)
  have e2 := h.2 (26 + 9 * B) j (by unfold cfP; omega)
  have e3 := h.2 (27 + 9 * B) j (by unfold cfP; omega)
  unfold cdT
  rw [e1, e2, e3]
theorem CF.z {B k : Nat} {σ s : am_HS} (h : CF B k σ s) : CF B 0 σ s := ⟨h.1, fun o j q => h.2 o j (fun z => q (by unfold cfP at *; omega))⟩
/-- a step is added, with a fault set or without -/
theorem cc0_addF {D : Nat} (hD : 2 ≤ D) {tx : Nat → Int} {n W b B r f : Nat} (σ : am_HS) (hx : CX tx n W b B r σ) (hF : FlQ tx n B f σ) (op ar ta : Int) : am_Do lc D mX0_add σ [vR (some (6 + B)), vI op, vI ar, vI ta] (qV fun s => CX tx n W b B r s ∧ FlQ tx n B f s ∧ CF B 0 σ s) := by
  obtain ⟨x1, x2, x3, x4, x5⟩ := id hx
  obtain ⟨f1, f2, f3⟩ := hF
  by_cases q : hI σ (6 + B) 2 < 1200
  · obtain ⟨k, hk⟩ : ∃ k : Nat, hI σ (6 + B) 2 = (k : Int) := ⟨(hI σ (6 + B) 2).toNat, by omega⟩
    refine (cc0_add hD σ x1 (by omega) r k x2 (by omega) hk (by omega) op ar ta).mono ?_
    rintro res s ⟨rfl, rfl⟩
    have hf : CF B 0 σ (adS σ B k r op ar ta) := (((((CF.rf B 0 σ).u (by unfold cfP; omega)).u (by unfold cfP; omega)).u (by unfold cfP; omega)).u (by unfold cfP; omega)).u (by unfold cfP; omega)
    refine ⟨rfl, hx.of hf, ⟨?_, ?_, ?_⟩, hf⟩
    · rw [adS_o (by omega) (by omega) (by omega)]; exact f1
    · unfold adS
      rw [hI_uI_n (by omega), hI_uI_e ⟨by omega, by omega⟩]
      omega
    · unfold adS
      rw [hI_uI_n (by omega), hI_uI_e ⟨by omega, by omega⟩]
      omega
  · refine (cc0_addN hD σ (by omega) (by omega) op ar ta (by omega)).mono ?_
    rintro res s ⟨rfl, rfl⟩
    exact ⟨rfl, hx, ⟨f1, f2, f3⟩, CF.rf _ _ _⟩
/-- the mark that a sign 45 was read -/
def MnQ (tx : Nat → Int) (n B i j : Nat) (σ s : am_HS) : Prop := (hI s (6 + B) 1 = 0 ∨ hI s (6 + B) 1 = 1) ∧ (hI s (6 + B) 1 ≠ 0 ↔ hI σ (6 + B) 1 ≠ 0 ∨ ∃ l, i ≤ l ∧ l < j ∧ tkT tx n l = (3, 45))
theorem MnQ.rf {tx : Nat → Int} {n B i : Nat} {σ s : am_HS} (h : hI s (6 + B) 1 = hI σ (6 + B) 1) (h2 : hI σ (6 + B) 1 = 0 ∨ hI σ (6 + B) 1 = 1) : MnQ tx n B i i σ s := by
  refine ⟨by rw [h]; exact h2, ?_⟩
  rw [h]
  refine ⟨Or.inl, fun q => ?_⟩
  rcases q with q | ⟨l, l1, l2, _⟩
  · exact q
  · omega
theorem MnQ.no {tx : Nat → Int} {n B i : Nat} {σ s : am_HS} (h : hI s (6 + B) 1 = hI σ (6 + B) 1) (h2 : hI σ (6 + B) 1 = 0 ∨ hI σ (6 + B) 1 = 1) (h3 : tkT tx n i ≠ (3, 45)) : MnQ tx n B i (i + 1) σ s := by
  refine ⟨by rw [h]; exact h2, ?_⟩
  rw [h]
  refine ⟨Or.inl, fun q => ?_⟩
  rcases q with q | ⟨l, l1, l2, l3⟩
  · exact q
  · rw [show l = i by omega] at l3
    exact absurd l3 h3
theorem MnQ.tr {tx : Nat → Int} {n B i j k : Nat} {σ s u : am_HS} (h : MnQ tx n B i j σ s) (g : MnQ tx n B j k s u) (hij : i ≤ j) (hjk : j ≤ k) : MnQ tx n B i k σ u := by
  refine ⟨g.1, g.2.trans ⟨fun q => ?_, fun q => ?_⟩⟩
  · rcases q with q | ⟨l, l1, l2, l3⟩
    · rcases h.2.1 q with q | ⟨l, l1, l2, l3⟩
      · exact Or.inl q
      · exact Or.inr ⟨l, l1, by omega, l3⟩
    · exact Or.inr ⟨l, by omega, l2, l3⟩
  · rcases q with q | ⟨l, l1, l2, l3⟩
    · exact Or.inl (h.2.2 (Or.inl q))
    · rcases Nat.lt_or_ge l j with z | z
      · exact Or.inl (h.2.2 (Or.inr ⟨l, l1, z, l3⟩))
      · exact Or.inr ⟨l, z, l2, l3⟩
theorem kn_r {a v x y : Int} (h : knC (a, v) x y) : (a = 1 ∧ x = 1000 ∧ y = v) ∨ (a = 2 ∧ x = 1001 ∧ y = v) ∨ (a = 3 ∧ x = v ∧ 40 ≤ v ∧ v ≤ 61) ∨ (a = 4 ∧ x ≠ 1000 ∧ x ≠ 1001 ∧ x ≠ 1003 ∧ ¬ (40 ≤ x ∧ x ≤ 45 ∨ x = 47 ∨ x = 59 ∨ x = 61)) ∨ (a = 0 ∧ x = 1003) := by
  unfold knC sgS at h
  dsimp only at h
  omega
def QD (tx : Nat → Int) (n W b B r m h i k : Nat) (σ : am_HS) (res : PR) (s : am_HS) : Prop := CX tx n W b B r s ∧ CF B 0 σ s ∧ match res with
  | .inl f => FlQ tx n B f s
  | .inr q => CF B k σ s ∧ i < q.2 ∧ ∃ k2, CI W B q.2 k2 s ∧ k < k2 ∧ k2 + 1 ≤ k + 2 * (q.2 - i) ∧ Cd (cdT s B) m h k k2 [(q.1, false)] ∧ NmP (tdC (cdT s B)) (tkT tx n) k k2 i q.2 ∧ MnQ tx n B i q.2 σ s ∧ hI s (21 + 9 * B) r = (k2 : Int)
def KOK (tx : Nat → Int) (n W b B r m h D mi : Nat) (dp : Int) (pr : Nat → PR) : Prop := ∀ (i k : Nat) (σ : am_HS), CX tx n W b B r σ → CI W B i k σ → (hI σ (6 + B) 1 = 0 ∨ hI σ (6 + B) 1 = 1) → k ≤ 2 * i → am_Do lc D mi σ [vR (some 4), vI dp] (qV fun s => QD tx n W b B r m h i k σ (pr i) s)
theorem QD.fl {tx : Nat → Int} {n W b B r m h i k f : Nat} {σ s : am_HS} (h1 : CX tx n W b B r s) (h2 : CF B 0 σ s) (h3 : FlQ tx n B f s) : QD tx n W b B r m h i k σ (.inl f) s := ⟨h1, h2, h3⟩
theorem cc1_openX {D : Nat} (hD : 2 ≤ D) (σ : am_HS) {b : Nat} (hf : σ.2.2 = cH b) (i : Nat) (hi : i < 601) (ha : hI σ 4 6 = (i : Int)) (dp : Int) (hno : 8 ≤ dp ∨ hI σ 4 7 ≠ 40) : am_Do lc D mX1_open σ [vR (some 4), vI dp] (qV fun s => s = flS σ i) := by
  obtain ⟨d, rfl⟩ : ∃ d, D = d + 1 := ⟨D - 1, by omega⟩
  refine am_enter rfl rfl (Nat.le_of_ble_eq_true rfl) ?_
  refine g_iload_n dX1_open_0 rfl ?_
  refine g_bipush dX1_open_1 (by decide) ?_
  refine g_icmp_ge (tgt := 35) dX1_open_3 (by decide) (fun c3 => ?_) (fun c3 => ?_)
  · refine g_aload_n dX1_open_35 rfl ?_
    refine g_callvV dX1_open_36 tm_1_62 rfl ⟨rfl, rfl⟩ rfl (Nat.le_of_ble_eq_true rfl) (cc1_fail (by omega) σ hf i (by omega) ha) (fun s36 h36 => ?_)
    obtain rfl := h36
    refine g_return dX1_open_39 rfl ⟨rfl, ?_⟩
    rfl
  · refine g_aload_n dX1_open_6 rfl ?_
    refine g_getI dX1_open_7 tf_1_32 rfl rfl ?_
    refine g_if_ge (tgt := 35) dX1_open_10 (by decide) (fun c10 => ?_) (fun c10 => ?_)
    · refine g_aload_n dX1_open_35 rfl ?_
      refine g_callvV dX1_open_36 tm_1_62 rfl ⟨rfl, rfl⟩ rfl (Nat.le_of_ble_eq_true rfl) (cc1_fail (by omega) σ hf i (by omega) ha) (fun s36 h36 => ?_)
      obtain rfl := h36
      refine g_return dX1_open_39 rfl ⟨rfl, ?_⟩
      rfl
    · refine g_aload_n dX1_open_13 rfl ?_
      refine g_getI dX1_open_14 tf_1_49 rfl rfl ?_
      refine g_bipush dX1_open_17 (by decide) ?_
      refine g_icmp_ne (tgt := 35) dX1_open_19 (by decide) (fun c19 => ?_) (fun c19 => ?_)
      · refine g_aload_n dX1_open_35 rfl ?_
        refine g_callvV dX1_open_36 tm_1_62 rfl ⟨rfl, rfl⟩ rfl (Nat.le_of_ble_eq_true rfl) (cc1_fail (by omega) σ hf i (by omega) ha) (fun s36 h36 => ?_)
        obtain rfl := h36
        refine g_return dX1_open_39 rfl ⟨rfl, ?_⟩
        rfl
      · exfalso; omega

theorem cc1_openS {D : Nat} (hD : 2 ≤ D) (σ : am_HS) {b : Nat} (hf : σ.2.2 = cH b) (i : Nat) (hi : i < 600) (ha : hI σ 4 6 = (i : Int)) (h9 : hI σ 4 9 < 0) (dp : Int) (hd8 : dp < 8) (h7 : hI σ 4 7 = 40) : am_Do lc D mX1_open σ [vR (some 4), vI dp] (qV fun s => s = tnS σ (i + 1)) := by
  obtain ⟨d, rfl⟩ : ∃ d, D = d + 1 := ⟨D - 1, by omega⟩
  refine am_enter rfl rfl (Nat.le_of_ble_eq_true rfl) ?_
  refine g_iload_n dX1_open_0 rfl ?_
  refine g_bipush dX1_open_1 (by decide) ?_
  refine g_icmp_ge (tgt := 35) dX1_open_3 (by decide) (fun c3 => ?_) (fun c3 => ?_)
  · exfalso; omega
  · refine g_aload_n dX1_open_6 rfl ?_
    refine g_getI dX1_open_7 tf_1_32 rfl rfl ?_
    refine g_if_ge (tgt := 35) dX1_open_10 (by decide) (fun c10 => ?_) (fun c10 => ?_)
    · exfalso; omega
    · refine g_aload_n dX1_open_13 rfl ?_
      refine g_getI dX1_open_14 tf_1_49 rfl rfl ?_
      refine g_bipush dX1_open_17 (by decide) ?_
      refine g_icmp_ne (tgt := 35) dX1_open_19 (by decide) (fun c19 => ?_) (fun c19 => ?_)
      · exfalso; omega
      · refine g_aload_n dX1_open_22 rfl ?_
        refine g_aload_n dX1_open_23 rfl ?_
        refine g_getI dX1_open_24 tf_1_79 rfl rfl ?_
        refine g_iconst dX1_open_27 ⟨by decide, by decide⟩ ?_
        refine g_iadd dX1_open_28 rfl ⟨by omega, by omega⟩ ?_
        rw [ha, show (i : Int) + 1 = ((i + 1 : Nat) : Int) from by omega]
        refine g_callvV dX1_open_29 tm_1_46 rfl ⟨rfl, rfl⟩ rfl (Nat.le_of_ble_eq_true rfl) (cc1_turnTo (by omega) σ hf (i + 1) (by omega)) (fun s29 h29 => ?_)
        obtain rfl := h29
        refine g_goto (tgt := 39) dX1_open_32 (by decide) ?_
        refine g_return dX1_open_39 rfl ⟨rfl, ?_⟩
        rfl

