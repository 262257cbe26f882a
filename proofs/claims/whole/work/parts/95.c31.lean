/-! THE CLASS: rings, needs -/
theorem ring_r {ed : Nat → Nat → Prop} {n W : Nat} {nd : Nat → Int} (hn : n ≤ 12) (hed : ∀ r b, r < n → ed r b → b < n ∨ (12 ≤ b ∧ b < 22)) : (∃ k, k < 22 ∧ rch (EdW ed n W nd) 22 k k) ↔ ∃ r, r < n ∧ rch (EdW ed n W nd) 22 r r := by
  constructor
  · rintro ⟨k, k1, k2⟩
    by_cases hk : k < n
    · exact ⟨k, hk, k2⟩
    · -- the first edge leads from a work to a rule
      have hS : ∃ b, b < n ∧ EdW ed n W nd k b ∧ (k = b ∨ rch (EdW ed n W nd) 22 b k) := by
        have hb : ∀ x, EdW ed n W nd k x → ∃ w, w < W ∧ k = 12 + w ∧ 0 ≤ nd w ∧ nd w < (n : Int) ∧ x = (nd w).toNat := fun x h => by
          rcases h with ⟨h1, _⟩ | h
          · exact absurd h1 hk
          · exact h
        by_cases he : ∃ x, EdW ed n W nd k x
        · obtain ⟨b, he⟩ := he
          obtain ⟨w, w1, w2, w3, w4, w5⟩ := hb b he
          refine ⟨b, by omega, he, ?_⟩
          refine rch_from (S := fun x => x = b ∨ rch (EdW ed n W nd) 22 b x) (fun x hx => ?_) (fun j x hj hx => ?_) 22 k k2
          · obtain ⟨w', v1, v2, v3, v4, v5⟩ := hb x hx
            have : w' = w := by omega
            subst this
            exact Or.inl (by omega)
          · rcases hj with rfl | hj
            · exact Or.inr (rch_up hx)
            · rcases hx with ⟨h1, h2⟩ | ⟨v, v1, v2, v3, v4, v5⟩
              · exact Or.inr (rch_tr 22 _ j _ (by omega) hj (rch_up (Or.inl ⟨h1, h2⟩)))
              · by_cases hj22 : j < 22
                · exact Or.inr (rch_tr 22 _ j _ hj22 hj (rch_up (Or.inr ⟨v, v1, v2, v3, v4, v5⟩)))
                · by_cases e : j = k
                  · omega
                  · exfalso
                    -- nothing leads to a node above 21
                    have hlt : ∀ y, rch (EdW ed n W nd) 22 b y → y < 22 := fun y hy => rch_from (S := fun y => y < 22) (fun y hy => by
                      rcases hy with ⟨h1, h2⟩ | ⟨u, u1, u2, u3, u4, u5⟩
                      · have := hed _ _ h1 h2
                        omega
                      · omega) (fun _ y _ hy => by
                      rcases hy with ⟨h1, h2⟩ | ⟨u, u1, u2, u3, u4, u5⟩
                      · have := hed _ _ h1 h2
                        omega
                      · omega) 22 y hy
                    exact hj22 (hlt j hj)
        · exfalso
          exact rch_from (S := fun _ => False) (fun x hx => he ⟨x, hx⟩) (fun _ _ h _ => h) 22 k k2
      obtain ⟨b, b1, b2, b3⟩ := hS
      rcases b3 with rfl | b3
      · exact absurd b1 hk
      · exact ⟨b, b1, rch_tr 22 _ k _ k1 b3 (rch_up b2)⟩
  · rintro ⟨r, r1, r2⟩
    exact ⟨r, by omega, r2⟩
theorem cc6_hasRing {D : Nat} (hD : 5 ≤ D) (σ : am_HS) {b : Nat} (hf : σ.2.2 = cH b) {B : Nat} (hB : B < 2) (N : Nat) (hN : hI σ (6 + B) 0 = (N : Int)) (hN12 : N ≤ 12) (W : Nat) (hW : hI σ 0 8 = (W : Int)) (hW10 : W ≤ 10) {ed : Nat → Nat → Prop} (hNB : NBk σ B N ed) (hed : ∀ r b, r < N → ed r b → b < N ∨ (12 ≤ b ∧ b < 22)) : am_Do lc D mX6_hasRing σ [vR (some 0), vR (some (6 + B))] (qI fun z s => (z = 1 ∧ (∃ r, r < N ∧ rch (EdW ed N W (fun w => hI σ (37 + w) 4)) 22 r r) ∨ z = 0 ∧ ¬ (∃ r, r < N ∧ rch (EdW ed N W (fun w => hI σ (37 + w) 4)) 22 r r)) ∧ s = σ) := by
  obtain ⟨d, rfl⟩ : ∃ d, D = d + 1 := ⟨D - 1, by omega⟩
  refine am_enter rfl rfl (Nat.le_of_ble_eq_true rfl) ?_
  have lp : ∀ (m r : Nat), r + m = N → (∀ q, q < r → ¬ rch (EdW ed N W (fun w => hI σ (37 + w) 4)) 22 q q) → am_Go lc d 6 3 2 cX6_hasRing 2 [some (vR (some 0)), some (vR (some (6 + B))), some (vI (r : Int))] [] σ (qI fun z s => (z = 1 ∧ (∃ r, r < N ∧ rch (EdW ed N W (fun w => hI σ (37 + w) 4)) 22 r r) ∨ z = 0 ∧ ¬ (∃ r, r < N ∧ rch (EdW ed N W (fun w => hI σ (37 + w) 4)) 22 r r)) ∧ s = σ) := by
    intro m
    induction m with
    | zero =>
      intro r hr hq
      refine g_iload_n dX6_hasRing_2 rfl ?_
      refine g_aload_n dX6_hasRing_3 rfl ?_
      refine g_getI dX6_hasRing_4 tf_6_122 (lc_b hB) rfl ?_
      refine g_icmp_ge (tgt := 35) dX6_hasRing_7 (by decide) (fun c7 => ?_) (fun c7 => ?_)
      · refine g_iconst dX6_hasRing_35 ⟨by decide, by decide⟩ ?_
        refine g_ireturn dX6_hasRing_36 (Or.inr ⟨rfl, by omega⟩) ⟨_, rfl, ?_⟩
        exact ⟨Or.inr ⟨rfl, fun ⟨q, q1, q2⟩ => hq q (by omega) q2⟩, rfl⟩
      · exfalso; omega
    | succ m ih =>
      intro r hr hq
      refine g_iload_n dX6_hasRing_2 rfl ?_
      refine g_aload_n dX6_hasRing_3 rfl ?_
      refine g_getI dX6_hasRing_4 tf_6_122 (lc_b hB) rfl ?_
      refine g_icmp_ge (tgt := 35) dX6_hasRing_7 (by decide) (fun c7 => ?_) (fun c7 => ?_)
      · exfalso; omega
      · refine g_aload_n dX6_hasRing_10 rfl ?_
        refine g_aload_n dX6_hasRing_11 rfl ?_
        refine g_iload_n dX6_hasRing_12 rfl ?_
        refine g_callvI dX6_hasRing_13 tm_6_140 rfl ⟨rfl, rfl⟩ rfl (Nat.le_of_ble_eq_true rfl) (cc6_under (by omega) σ hf hB N hN hN12 W hW hW10 hNB hed r (by omega)) (fun z13 s13 h13 => ?_)
        obtain ⟨⟨G, g1, g2, g3⟩, e13⟩ := h13
        obtain rfl := e13.symm
        subst g1
        have hg := g3 (10 + r)
        rw [phB_r] at hg
        refine g_bipush dX6_hasRing_16 (by decide) ?_
        refine g_iload_n dX6_hasRing_18 rfl ?_
        refine g_iadd dX6_hasRing_19 rfl ⟨by omega, by omega⟩ ?_
        rw [show (10 : Int) + (r : Int) = ((10 + r : Nat) : Int) from by omega]
        refine g_callsI dX6_hasRing_20 tm_6_144 rfl ⟨Nat.le_of_ble_eq_true rfl, rfl, rfl⟩ (Nat.le_of_ble_eq_true rfl) (cc6_bit (by omega) σ G (10 + r) (by omega) (by omega)) (fun z20 s20 h20 => ?_)
        obtain ⟨h20, e20⟩ := h20
        obtain rfl := e20.symm
        refine g_iconst dX6_hasRing_23 ⟨by decide, by decide⟩ ?_
        refine g_icmp_ne (tgt := 29) dX6_hasRing_24 (by decide) (fun c24 => ?_) (fun c24 => ?_)
        · refine g_iinc dX6_hasRing_29 (by decide) rfl ⟨by omega, by omega⟩ (show (r : Int) + 1 = ((r + 1 : Nat) : Int) from by omega) rfl ?_
          refine g_goto (tgt := 2) dX6_hasRing_32 (by decide) ?_
          refine ih (r + 1) (by omega) (fun q hqr hq2 => ?_)
          by_cases e : q = r
          · subst e
            rcases h20 with ⟨z1, z2⟩ | ⟨z1, z2⟩
            · exact absurd z1 (by omega)
            · exact z2 (hg.mpr ⟨by omega, hq2⟩)
          · exact hq q (by omega) hq2
        · refine g_iconst dX6_hasRing_27 ⟨by decide, by decide⟩ ?_
          refine g_ireturn dX6_hasRing_28 (Or.inr ⟨rfl, (by omega)⟩) ⟨_, rfl, ?_⟩
          rcases h20 with ⟨z1, z2⟩ | ⟨z1, z2⟩
          · exact ⟨Or.inl ⟨rfl, r, by omega, (hg.mp z2).2⟩, rfl⟩
          · exact absurd z1 (by omega)
  refine g_iconst dX6_hasRing_0 ⟨by decide, by decide⟩ ?_
  refine g_istore_n dX6_hasRing_1 (by decide) rfl ?_
  exact lp N 0 (by omega) (fun q hq => by omega)
theorem cc6_needsBeyond {D : Nat} (hD : 2 ≤ D) (σ : am_HS) {b : Nat} (hf : σ.2.2 = cH b) (W : Nat) (hW : hI σ 0 8 = (W : Int)) (hW10 : W ≤ 10) (n : Int) : am_Do lc D mX6_needsBeyond σ [vR (some 0), vI n] (qI fun z s => (z = 1 ∧ (∃ w, w < W ∧ n ≤ hI σ (37 + w) 4) ∨ z = 0 ∧ ¬ (∃ w, w < W ∧ n ≤ hI σ (37 + w) 4)) ∧ s = σ) := by
  obtain ⟨d, rfl⟩ : ∃ d, D = d + 1 := ⟨D - 1, by omega⟩
  refine am_enter rfl rfl (Nat.le_of_ble_eq_true rfl) ?_
  have lp : ∀ (m r : Nat) (o3 : Option am_V), r + m = W → (∀ q, q < r → ¬ n ≤ hI σ (37 + q) 4) → am_Go lc d 6 4 2 cX6_needsBeyond 2 [some (vR (some 0)), some (vI n), some (vI (r : Int)), o3] [] σ (qI fun z s => (z = 1 ∧ (∃ w, w < W ∧ n ≤ hI σ (37 + w) 4) ∨ z = 0 ∧ ¬ (∃ w, w < W ∧ n ≤ hI σ (37 + w) 4)) ∧ s = σ) := by
    intro m
    induction m with
    | zero =>
      intro r o3 hr hq
      refine g_iload_n dX6_needsBeyond_2 rfl ?_
      refine g_aload_n dX6_needsBeyond_3 rfl ?_
      refine g_getI dX6_needsBeyond_4 tf_6_64 rfl rfl ?_
      refine g_icmp_ge (tgt := 36) dX6_needsBeyond_7 (by decide) (fun c7 => ?_) (fun c7 => ?_)
      · refine g_iconst dX6_needsBeyond_36 ⟨by decide, by decide⟩ ?_
        refine g_ireturn dX6_needsBeyond_37 (Or.inr ⟨rfl, by omega⟩) ⟨_, rfl, ?_⟩
        exact ⟨Or.inr ⟨rfl, fun ⟨q, q1, q2⟩ => hq q (by omega) q2⟩, rfl⟩
      · exfalso; omega
    | succ m ih =>
      intro k o3 hk hq
      refine g_iload_n dX6_needsBeyond_2 rfl ?_
      refine g_aload_n dX6_needsBeyond_3 rfl ?_
      refine g_getI dX6_needsBeyond_4 tf_6_64 rfl rfl ?_
      refine g_icmp_ge (tgt := 36) dX6_needsBeyond_7 (by decide) (fun c7 => ?_) (fun c7 => ?_)
      · exfalso; omega
      · refine g_aload_n dX6_needsBeyond_10 rfl ?_
        refine g_iload_n dX6_needsBeyond_11 rfl ?_
        refine g_callvR dX6_needsBeyond_12 tm_6_67 rfl ⟨rfl, rfl⟩ rfl (Nat.le_of_ble_eq_true rfl) (cc6_workAt (by omega) σ hf _ (by omega)) (fun z12 s12 h12 => ?_)
        obtain ⟨h12, e12⟩ := h12
        obtain rfl := e12.symm
        have hz12 : z12 = some (37 + k) := by
          rcases h12 with ⟨z1, z2⟩ | ⟨z1, z2⟩
          · rw [z2]; congr 1
          · exact absurd (show (0 : Int) ≤ (k : Int) ∧ (k : Int) < hI σ 0 8 from ⟨by omega, by omega⟩) z1
        clear h12
        subst hz12
        refine g_astore_n dX6_needsBeyond_15 (by decide) rfl ?_
        refine g_aload_n dX6_needsBeyond_16 rfl ?_
        refine g_ifnull (tgt := 30) dX6_needsBeyond_17 (by decide) (fun c17 => ?_) (fun c17 => ?_)
        · cases c17
        · refine g_aload_n dX6_needsBeyond_20 rfl ?_
          refine g_getI dX6_needsBeyond_21 tf_6_148 (lc_w (by omega)) rfl ?_
          refine g_iload_n dX6_needsBeyond_24 rfl ?_
          refine g_icmp_lt (tgt := 30) dX6_needsBeyond_25 (by decide) (fun c25 => ?_) (fun c25 => ?_)
          · refine g_iinc dX6_needsBeyond_30 (by decide) rfl ⟨by omega, by omega⟩ (show (k : Int) + 1 = ((k + 1 : Nat) : Int) from by omega) rfl ?_
            refine g_goto (tgt := 2) dX6_needsBeyond_33 (by decide) ?_
            refine ih (k + 1) _ (by omega) (fun q hqr hq2 => ?_)
            by_cases e : q = k
            · subst e
              omega
            · exact hq q (by omega) hq2
          · refine g_iconst dX6_needsBeyond_28 ⟨by decide, by decide⟩ ?_
            refine g_ireturn dX6_needsBeyond_29 (Or.inr ⟨rfl, by omega⟩) ⟨_, rfl, ?_⟩
            exact ⟨Or.inl ⟨rfl, k, by omega, by omega⟩, rfl⟩
  refine g_iconst dX6_needsBeyond_0 ⟨by decide, by decide⟩ ?_
  refine g_istore_n dX6_needsBeyond_1 (by decide) rfl ?_
  exact lp W 0 _ (by omega) (fun q hq => by omega)
