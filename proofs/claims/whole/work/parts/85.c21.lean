/-! THE CLASS: readSum -/
theorem cc1_readSum {d : Nat} (hd : 2 ≤ d) {tx : Nat → Int} {n W b B r h : Nat} {dp : Int} (hdp : dp ≤ 8) {one : Nat → PR} (hpr : KOK tx n W b B r 1 h d mX1_readProduct dp (pPW one (tkT tx n))) : KOK tx n W b B r 0 (h + 1) (d + 1) mX1_readSum dp (pSW one (tkT tx n)) := by
  intro i k σ hx hi hmn hk2
  have i4 := hi.2.2.2.1
  refine am_enter rfl rfl (Nat.le_of_ble_eq_true rfl) ?_
  obtain ⟨M, hM⟩ : ∃ M : Nat, M = 649 := ⟨_, rfl⟩
  have e0 : pSW one (tkT tx n) i = match pPW one (tkT tx n) i with
      | .inl f => .inl f
      | .inr q => pLS (pPW one (tkT tx n)) (tkT tx n) (M + 1) [(q.1, false)] q.2 := by
    rw [hM]
    rfl
  refine g_aload_n dX1_readSum_0 rfl ?_
  refine g_getI dX1_readSum_1 tf_1_32 rfl rfl ?_
  refine g_if_ge (tgt := 13) dX1_readSum_4 (by decide) (fun c4 => ?_) (fun c4 => ?_)
  · exfalso; omega
  · refine g_iload_n dX1_readSum_7 rfl ?_
    refine g_bipush dX1_readSum_8 (by decide) ?_
    refine g_icmp_le (tgt := 14) dX1_readSum_10 (by decide) (fun c10 => ?_) (fun c10 => ?_)
    · refine g_aload_n dX1_readSum_14 rfl ?_
      refine g_iload_n dX1_readSum_15 rfl ?_
      refine g_callvV dX1_readSum_16 tm_1_85 rfl ⟨rfl, rfl⟩ rfl (Nat.le_of_ble_eq_true rfl) (hpr i k σ hx hi hmn hk2) (fun s16 h16 => ?_)
      rcases hres : pPW one (tkT tx n) i with f | ⟨e, j⟩
      · rw [hres] at h16 e0
        rw [e0]
        have hft : 0 ≤ hI s16 4 9 := by have := h16.2.2.1; omega
        refine g_iconst dX1_readSum_19 ⟨by decide, by decide⟩ ?_
        refine g_istore_n dX1_readSum_20 (by decide) rfl ?_
        refine g_iload_n dX1_readSum_21 rfl ?_
        refine g_sipush dX1_readSum_22 (by decide) ?_
        refine g_icmp_ge (tgt := 119) dX1_readSum_25 (by decide) (fun c25 => ?_) (fun c25 => ?_)
        · exfalso; omega
        · refine g_aload_n dX1_readSum_28 rfl ?_
          refine g_getI dX1_readSum_29 tf_1_32 rfl rfl ?_
          refine g_if_ge (tgt := 119) dX1_readSum_32 (by decide) (fun c32 => ?_) (fun c32 => ?_)
          · refine g_return dX1_readSum_119 rfl ⟨rfl, ?_⟩
            exact h16
          · exfalso; omega
      · rw [hres] at h16 e0
        rw [e0]
        clear e0
        obtain ⟨k3, p⟩ := QD.ql h16
        have p3 := p.2.2.1
        have p4 := p.2.2.2.1
        have p6 := p.2.2.2.2.2.1
        have p7 := p.2.2.2.2.2.2.1
        have pW := p4.2.2.2.2.1
        have hW6 := p.1.2.2.2.1.2.2
        have Q3 : QL tx n W b B r 2 (h + 1) i k σ [(e, false)] j k3 s16 := ⟨p.1, p.2.1, p3, p4, p.2.2.2.2.1, p6, Cd.up (Cd.s1 p7) (by omega), p.2.2.2.2.2.2.2⟩
        refine g_iconst dX1_readSum_19 ⟨by decide, by decide⟩ ?_
        refine g_istore_n dX1_readSum_20 (by decide) rfl ?_
        exact cc1_sumL hd hpr hk2 (M + 1) _ j k3 0 s16 _ Q3 (by omega) (by omega)
    · exfalso; omega
