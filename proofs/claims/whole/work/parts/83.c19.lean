/-! THE CLASS: readProduct -/
theorem cc1_readProduct {d : Nat} (hd : 2 ≤ d) {tx : Nat → Int} {n W b B r h : Nat} {dp : Int} {one : Nat → PR} (hone : KOK tx n W b B r 0 h d mX1_readPart dp one) : KOK tx n W b B r 1 (h + 1) (d + 1) mX1_readProduct dp (pPW one (tkT tx n)) := by
  intro i k σ hx hi hmn hk2
  refine am_enter rfl rfl (Nat.le_of_ble_eq_true rfl) ?_
  obtain ⟨M, hM⟩ : ∃ M : Nat, M = 649 := ⟨_, rfl⟩
  have e0 : pPW one (tkT tx n) i = match one i with
      | .inl f => .inl f
      | .inr q => pLP one (tkT tx n) (M + 1) [(q.1, false)] q.2 := by
    rw [hM]
    rfl
  refine g_aload_n dX1_readProduct_0 rfl ?_
  refine g_iload_n dX1_readProduct_1 rfl ?_
  refine g_callvV dX1_readProduct_2 tm_1_96 rfl ⟨rfl, rfl⟩ rfl (Nat.le_of_ble_eq_true rfl) (hone i k σ hx hi hmn hk2) (fun s2 h2 => ?_)
  rcases hres : one i with f | ⟨e, j⟩
  · rw [hres] at h2 e0
    rw [e0]
    refine g_aload_n dX1_readProduct_5 rfl ?_
    refine g_getI dX1_readProduct_6 tf_1_49 rfl rfl ?_
    refine g_bipush dX1_readProduct_9 (by decide) ?_
    refine g_icmp_eq (tgt := 24) dX1_readProduct_11 (by decide) (fun c11 => ?_) (fun c11 => ?_)
    · refine g_iconst dX1_readProduct_24 ⟨by decide, by decide⟩ ?_
      refine g_istore_n dX1_readProduct_25 (by decide) rfl ?_
      exact cc1_prodF hd s2 h2.1 h2.2.2 h2.2.1
    · refine g_aload_n dX1_readProduct_14 rfl ?_
      refine g_getI dX1_readProduct_15 tf_1_49 rfl rfl ?_
      refine g_bipush dX1_readProduct_18 (by decide) ?_
      refine g_icmp_eq (tgt := 24) dX1_readProduct_20 (by decide) (fun c20 => ?_) (fun c20 => ?_)
      · refine g_iconst dX1_readProduct_24 ⟨by decide, by decide⟩ ?_
        refine g_istore_n dX1_readProduct_25 (by decide) rfl ?_
        exact cc1_prodF hd s2 h2.1 h2.2.2 h2.2.1
      · refine g_return dX1_readProduct_23 rfl ⟨rfl, ?_⟩
        exact h2
  · rw [hres] at h2 e0
    rw [e0]
    clear e0
    obtain ⟨k3, p⟩ := QD.ql h2
    have p3 := p.2.2.1
    have p4 := p.2.2.2.1
    have p6 := p.2.2.2.2.2.1
    have p7 := p.2.2.2.2.2.2.1
    have pW := p4.2.2.2.2.1
    have hW6 := p.1.2.2.2.1.2.2
    have Q3 : QL tx n W b B r 3 (h + 1) i k σ [(e, false)] j k3 s2 := ⟨p.1, p.2.1, p3, p4, p.2.2.2.2.1, p6, Cd.up (Cd.p1 p7) (by omega), p.2.2.2.2.2.2.2⟩
    obtain ⟨a, v, hT⟩ : ∃ a v, tkT tx n j = (a, v) := ⟨_, _, rfl⟩
    have K := kn_r (hT ▸ CI.kn p.1 p4)
    have hpx : ∀ y : Int, (a, v) = (3, y) → a = 3 ∧ v = y := fun y w => ⟨congrArg Prod.fst w, congrArg Prod.snd w⟩
    have hor : (a = 3 ∧ v = 42 ∨ a = 3 ∧ v = 47) → tkT tx n j = (3, 42) ∨ tkT tx n j = (3, 47) := fun z => by
      rcases z with ⟨z1, z2⟩ | ⟨z1, z2⟩
      · exact Or.inl (by rw [hT, z1, z2])
      · exact Or.inr (by rw [hT, z1, z2])
    refine g_aload_n dX1_readProduct_5 rfl ?_
    refine g_getI dX1_readProduct_6 tf_1_49 rfl rfl ?_
    refine g_bipush dX1_readProduct_9 (by decide) ?_
    refine g_icmp_eq (tgt := 24) dX1_readProduct_11 (by decide) (fun c11 => ?_) (fun c11 => ?_)
    · refine g_iconst dX1_readProduct_24 ⟨by decide, by decide⟩ ?_
      refine g_istore_n dX1_readProduct_25 (by decide) rfl ?_
      exact cc1_prodL hd hone hk2 (M + 1) _ j k3 0 s2 _ Q3 (by omega) (by omega) (Or.inr (hor (by omega)))
    · refine g_aload_n dX1_readProduct_14 rfl ?_
      refine g_getI dX1_readProduct_15 tf_1_49 rfl rfl ?_
      refine g_bipush dX1_readProduct_18 (by decide) ?_
      refine g_icmp_eq (tgt := 24) dX1_readProduct_20 (by decide) (fun c20 => ?_) (fun c20 => ?_)
      · refine g_iconst dX1_readProduct_24 ⟨by decide, by decide⟩ ?_
        refine g_istore_n dX1_readProduct_25 (by decide) rfl ?_
        exact cc1_prodL hd hone hk2 (M + 1) _ j k3 0 s2 _ Q3 (by omega) (by omega) (Or.inr (hor (by omega)))
      · refine g_return dX1_readProduct_23 rfl ⟨rfl, ?_⟩
        have hq42 : ¬ tkT tx n j = (3, 42) := fun w => by
          rw [hT] at w
          have := hpx 42 w
          omega
        have hq47 : ¬ tkT tx n j = (3, 47) := fun w => by
          rw [hT] at w
          have := hpx 47 w
          omega
        have e1 : pLP one (tkT tx n) (M + 1) [(e, false)] j = .inr (cmbL 3 0 [(e, false)], j) := by
          show (if tkT tx n j = (3, 42) then _ else if tkT tx n j = (3, 47) then _ else _) = _
          rw [if_neg hq42, if_neg hq47]
        show QD tx n W b B r 1 (h + 1) i k σ (pLP one (tkT tx n) (M + 1) [(e, false)] j) s2
        rw [e1]
        exact QL.qd ⟨p.1, p.2.1, p3, p4, p.2.2.2.2.1, p6, Cd.up (Cd.pF p7) (by omega), p.2.2.2.2.2.2.2⟩
