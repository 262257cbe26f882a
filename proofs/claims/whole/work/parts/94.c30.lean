/-! THE CLASS: 'under' -/
theorem cc6_undR {d : Nat} (hd : 3 ≤ d) (σ : am_HS) {b : Nat} (hf : σ.2.2 = cH b) {B : Nat} (hB : B < 2) (N : Nat) (hN : hI σ (6 + B) 0 = (N : Int)) (hN12 : N ≤ 12) (W : Nat) (hW : hI σ 0 8 = (W : Int)) (hW10 : W ≤ 10) {ed : Nat → Nat → Prop} (hNB : NBk σ B N ed) (hed : ∀ r b, r < N → ed r b → b < N ∨ (12 ≤ b ∧ b < 22)) (r0 : Nat) (F rd : Nat) (hF : F < 4194304) (o7 : Option am_V) (hq : ∀ (M : Nat) (o6 o7 : Option am_V), M < 4194304 → (∀ a, hasB M a ↔ UnR ed F N a) → am_Go lc d 6 8 1 cX6_under 61 [some (vR (some 0)), some (vR (some (6 + B))), some (vI (r0 : Int)), some (vI (F : Int)), some (vI (rd : Int)), some (vI (M : Int)), o6, o7] [] σ (qI fun z s => (∃ G : Nat, z = (G : Int) ∧ G < 4194304 ∧ ∀ a, hasB G a ↔ a < 22 ∧ rch (EdW ed N W (fun w => hI σ (37 + w) 4)) 22 r0 (phB a)) ∧ s = σ)) : ∀ (m k M : Nat), k + m = N → M < 4194304 → (∀ a, hasB M a ↔ UnR ed F k a) → am_Go lc d 6 8 1 cX6_under 22 [some (vR (some 0)), some (vR (some (6 + B))), some (vI (r0 : Int)), some (vI (F : Int)), some (vI (rd : Int)), some (vI (M : Int)), some (vI (k : Int)), o7] [] σ (qI fun z s => (∃ G : Nat, z = (G : Int) ∧ G < 4194304 ∧ ∀ a, hasB G a ↔ a < 22 ∧ rch (EdW ed N W (fun w => hI σ (37 + w) 4)) 22 r0 (phB a)) ∧ s = σ) := by
  intro m
  induction m with
  | zero =>
    intro k M hk hM hU
    have e : k = N := by omega
    subst e
    refine g_iload dX6_under_22 rfl ?_
    refine g_aload_n dX6_under_24 rfl ?_
    refine g_getI dX6_under_25 tf_6_122 (lc_b hB) rfl ?_
    refine g_icmp_ge (tgt := 61) dX6_under_28 (by decide) (fun c28 => ?_) (fun c28 => ?_)
    · exact hq M _ _ hM hU
    · exfalso; omega
  | succ m ih =>
    intro k M hk hM hU
    obtain ⟨g, g1, g2, g3⟩ := hNB k (by omega)
    refine g_iload dX6_under_22 rfl ?_
    refine g_aload_n dX6_under_24 rfl ?_
    refine g_getI dX6_under_25 tf_6_122 (lc_b hB) rfl ?_
    refine g_icmp_ge (tgt := 61) dX6_under_28 (by decide) (fun c28 => ?_) (fun c28 => ?_)
    · exfalso; omega
    · refine g_iload_n dX6_under_31 rfl ?_
      refine g_bipush dX6_under_32 (by decide) ?_
      refine g_iload dX6_under_34 rfl ?_
      refine g_iadd dX6_under_36 rfl ⟨by omega, by omega⟩ ?_
      rw [show (10 : Int) + (k : Int) = ((10 + k : Nat) : Int) from by omega]
      refine g_callsI dX6_under_37 tm_6_144 rfl ⟨Nat.le_of_ble_eq_true rfl, rfl, rfl⟩ (Nat.le_of_ble_eq_true rfl) (cc6_bit (by omega) σ F (10 + k) (by omega) (by omega)) (fun z37 s37 h37 => ?_)
      obtain ⟨h37, e37⟩ := h37
      obtain rfl := e37.symm
      refine g_iconst dX6_under_40 ⟨by decide, by decide⟩ ?_
      refine g_icmp_ne (tgt := 55) dX6_under_41 (by decide) (fun c41 => ?_) (fun c41 => ?_)
      · refine g_iinc dX6_under_55 (by decide) rfl ⟨by omega, by omega⟩ (show (k : Int) + 1 = ((k + 1 : Nat) : Int) from by omega) rfl ?_
        refine g_goto (tgt := 22) dX6_under_58 (by decide) ?_
        refine ih (k + 1) M (by omega) hM (fun a => (hU a).trans ?_)
        unfold UnR
        constructor
        · rintro (h | ⟨r, r1, r2⟩)
          · exact Or.inl h
          · exact Or.inr ⟨r, by omega, r2⟩
        · rintro (h | ⟨r, r1, r2, r3⟩)
          · exact Or.inl h
          · by_cases e : r = k
            · subst e
              rcases h37 with ⟨z1, z2⟩ | ⟨z1, z2⟩
              · exact absurd z1 (by omega)
              · exact absurd r2 z2
            · exact Or.inr ⟨r, by omega, r2, r3⟩
      · refine g_iload dX6_under_44 rfl ?_
        refine g_aload_n dX6_under_46 rfl ?_
        refine g_iload dX6_under_47 rfl ?_
        refine g_callvI dX6_under_49 tm_6_287 rfl ⟨rfl, rfl⟩ (lc_b hB) (Nat.le_of_ble_eq_true rfl) (cc0_namedBy (by omega) σ hf hB N hN hN12 k) (fun z49 s49 h49 => ?_)
        obtain ⟨h49, e49⟩ := h49
        obtain rfl := e49.symm
        rw [if_pos (by omega), g1] at h49
        subst h49
        refine g_ior dX6_under_52 (bt_or (by omega) (by omega)) ?_
        refine g_istore dX6_under_53 (by decide) rfl ?_
        refine g_iinc dX6_under_55 (by decide) rfl ⟨by omega, by omega⟩ (show (k : Int) + 1 = ((k + 1 : Nat) : Int) from by omega) rfl ?_
        refine g_goto (tgt := 22) dX6_under_58 (by decide) ?_
        have hk37 : hasB F (10 + k) := by
          rcases h37 with ⟨z1, z2⟩ | ⟨z1, z2⟩
          · exact z2
          · exact absurd z1 (by omega)
        refine ih (k + 1) (M ||| g) (by omega) (or_lt22 hM g2) (fun a => (or_bit _ _ _).trans ?_)
        rw [hU a, g3 a]
        unfold UnR
        constructor
        · rintro ((h | ⟨r, r1, r2⟩) | ⟨h1, h2⟩)
          · exact Or.inl h
          · exact Or.inr ⟨r, by omega, r2⟩
          · exact Or.inr ⟨k, by omega, hk37, h1, h2⟩
        · rintro (h | ⟨r, r1, r2, r3⟩)
          · exact Or.inl (Or.inl h)
          · by_cases e : r = k
            · subst e
              exact Or.inr r3
            · exact Or.inl (Or.inr ⟨r, by omega, r2, r3⟩)
theorem cc6_undW {d : Nat} (hd : 3 ≤ d) (σ : am_HS) {b : Nat} (hf : σ.2.2 = cH b) {B : Nat} (hB : B < 2) (N : Nat) (hN : hI σ (6 + B) 0 = (N : Int)) (hN12 : N ≤ 12) (W : Nat) (hW : hI σ 0 8 = (W : Int)) (hW10 : W ≤ 10) {ed : Nat → Nat → Prop} (hNB : NBk σ B N ed) (hed : ∀ r b, r < N → ed r b → b < N ∨ (12 ≤ b ∧ b < 22)) (r0 : Nat) (F rd : Nat) (hF : F < 4194304) (hq : ∀ (M : Nat) (o6 o7 : Option am_V), M < 4194304 → (∀ a, hasB M a ↔ UnW ed N (fun w => hI σ (37 + w) 4) F W a) → am_Go lc d 6 8 1 cX6_under 137 [some (vR (some 0)), some (vR (some (6 + B))), some (vI (r0 : Int)), some (vI (F : Int)), some (vI (rd : Int)), some (vI (M : Int)), o6, o7] [] σ (qI fun z s => (∃ G : Nat, z = (G : Int) ∧ G < 4194304 ∧ ∀ a, hasB G a ↔ a < 22 ∧ rch (EdW ed N W (fun w => hI σ (37 + w) 4)) 22 r0 (phB a)) ∧ s = σ)) : ∀ (m k M : Nat) (o7 : Option am_V), k + m = W → M < 4194304 → (∀ a, hasB M a ↔ UnW ed N (fun w => hI σ (37 + w) 4) F k a) → am_Go lc d 6 8 1 cX6_under 64 [some (vR (some 0)), some (vR (some (6 + B))), some (vI (r0 : Int)), some (vI (F : Int)), some (vI (rd : Int)), some (vI (M : Int)), some (vI (k : Int)), o7] [] σ (qI fun z s => (∃ G : Nat, z = (G : Int) ∧ G < 4194304 ∧ ∀ a, hasB G a ↔ a < 22 ∧ rch (EdW ed N W (fun w => hI σ (37 + w) 4)) 22 r0 (phB a)) ∧ s = σ) := by
  intro m
  induction m with
  | zero =>
    intro k M o7 hk hM hU
    have e : k = W := by omega
    subst e
    refine g_iload dX6_under_64 rfl ?_
    refine g_aload_n dX6_under_66 rfl ?_
    refine g_getI dX6_under_67 tf_6_64 rfl rfl ?_
    refine g_icmp_ge (tgt := 137) dX6_under_70 (by decide) (fun c70 => ?_) (fun c70 => ?_)
    · exact hq M _ _ hM hU
    · exfalso; omega
  | succ m ih =>
    intro k M o7 hk hM hU
    have hskip : ¬ (hasB F k ∧ 0 ≤ hI σ (37 + k) 4 ∧ hI σ (37 + k) 4 < (N : Int)) → ∀ a, hasB M a ↔ UnW ed N (fun w => hI σ (37 + w) 4) F (k + 1) a := fun hno a => (hU a).trans (by
      unfold UnW
      constructor
      · rintro (h | ⟨w, w1, w2⟩)
        · exact Or.inl h
        · exact Or.inr ⟨w, by omega, w2⟩
      · rintro (h | ⟨w, w1, w2, w3, w4, w5⟩)
        · exact Or.inl h
        · by_cases e : w = k
          · subst e
            exact absurd ⟨w2, w3, w4⟩ hno
          · exact Or.inr ⟨w, by omega, w2, w3, w4, w5⟩)
    refine g_iload dX6_under_64 rfl ?_
    refine g_aload_n dX6_under_66 rfl ?_
    refine g_getI dX6_under_67 tf_6_64 rfl rfl ?_
    refine g_icmp_ge (tgt := 137) dX6_under_70 (by decide) (fun c70 => ?_) (fun c70 => ?_)
    · exfalso; omega
    · refine g_aload_n dX6_under_73 rfl ?_
      refine g_iload dX6_under_74 rfl ?_
      refine g_callvR dX6_under_76 tm_6_67 rfl ⟨rfl, rfl⟩ rfl (Nat.le_of_ble_eq_true rfl) (cc6_workAt (by omega) σ hf _ (by omega)) (fun z76 s76 h76 => ?_)
      obtain ⟨h76, e76⟩ := h76
      obtain rfl := e76.symm
      have hz76 : z76 = some (37 + k) := by
        rcases h76 with ⟨z1, z2⟩ | ⟨z1, z2⟩
        · rw [z2]; congr 1
        · exact absurd (show (0 : Int) ≤ (k : Int) ∧ (k : Int) < hI σ 0 8 from ⟨by omega, by omega⟩) z1
      clear h76
      subst hz76
      refine g_astore dX6_under_79 (by decide) rfl ?_
      refine g_aload dX6_under_81 rfl ?_
      refine g_ifnull (tgt := 131) dX6_under_83 (by decide) (fun c83 => ?_) (fun c83 => ?_)
      · cases c83
      · refine g_iload_n dX6_under_86 rfl ?_
        refine g_iload dX6_under_87 rfl ?_
        refine g_callsI dX6_under_89 tm_6_144 rfl ⟨Nat.le_of_ble_eq_true rfl, rfl, rfl⟩ (Nat.le_of_ble_eq_true rfl) (cc6_bit (by omega) σ F k (by omega) (by omega)) (fun z89 s89 h89 => ?_)
        obtain ⟨h89, e89⟩ := h89
        obtain rfl := e89.symm
        refine g_iconst dX6_under_92 ⟨by decide, by decide⟩ ?_
        refine g_icmp_ne (tgt := 131) dX6_under_93 (by decide) (fun c93 => ?_) (fun c93 => ?_)
        · refine g_iinc dX6_under_131 (by decide) rfl ⟨by omega, by omega⟩ (show (k : Int) + 1 = ((k + 1 : Nat) : Int) from by omega) rfl ?_
          refine g_goto (tgt := 64) dX6_under_134 (by decide) ?_
          refine ih (k + 1) M _ (by omega) hM (hskip (fun z => ?_))
          have zz := z.1
          rcases h89 with ⟨z1, z2⟩ | ⟨z1, z2⟩
          · omega
          · exact z2 zz
        · refine g_aload dX6_under_96 rfl ?_
          refine g_getI dX6_under_98 tf_6_148 (lc_w (by omega)) rfl ?_
          refine g_if_lt (tgt := 131) dX6_under_101 (by decide) (fun c101 => ?_) (fun c101 => ?_)
          · refine g_iinc dX6_under_131 (by decide) rfl ⟨by omega, by omega⟩ (show (k : Int) + 1 = ((k + 1 : Nat) : Int) from by omega) rfl ?_
            refine g_goto (tgt := 64) dX6_under_134 (by decide) ?_
            refine ih (k + 1) M _ (by omega) hM (hskip (fun z => ?_))
            have zz := z.1
            rcases h89 with ⟨z1, z2⟩ | ⟨z1, z2⟩
            · omega
            · exact z2 zz
          · refine g_aload dX6_under_104 rfl ?_
            refine g_getI dX6_under_106 tf_6_148 (lc_w (by omega)) rfl ?_
            refine g_aload_n dX6_under_109 rfl ?_
            refine g_getI dX6_under_110 tf_6_122 (lc_b hB) rfl ?_
            refine g_icmp_ge (tgt := 131) dX6_under_113 (by decide) (fun c113 => ?_) (fun c113 => ?_)
            · refine g_iinc dX6_under_131 (by decide) rfl ⟨by omega, by omega⟩ (show (k : Int) + 1 = ((k + 1 : Nat) : Int) from by omega) rfl ?_
              refine g_goto (tgt := 64) dX6_under_134 (by decide) ?_
              refine ih (k + 1) M _ (by omega) hM (hskip (fun z => ?_))
              have zz := z.1
              rcases h89 with ⟨z1, z2⟩ | ⟨z1, z2⟩
              · omega
              · exact z2 zz
            · refine g_iload dX6_under_116 rfl ?_
              refine g_iconst dX6_under_118 ⟨by decide, by decide⟩ ?_
              refine g_bipush dX6_under_119 (by decide) ?_
              refine g_aload dX6_under_121 rfl ?_
              refine g_getI dX6_under_123 tf_6_148 (lc_w (by omega)) rfl ?_
              refine g_iadd dX6_under_126 rfl ⟨by omega, by omega⟩ ?_
              rw [show (10 : Int) + hI σ (37 + k) 4 = ((10 + (hI σ (37 + k) 4).toNat : Nat) : Int) from by omega]
              refine g_ishl dX6_under_127 (bt_shl1 (by omega)) ?_
              refine g_ior dX6_under_128 (bt_or (by omega) (by have := pow_lt22 (m := 10 + (hI σ (37 + k) 4).toNat) (by omega); omega)) ?_
              refine g_istore dX6_under_129 (by decide) rfl ?_
              refine g_iinc dX6_under_131 (by decide) rfl ⟨by omega, by omega⟩ (show (k : Int) + 1 = ((k + 1 : Nat) : Int) from by omega) rfl ?_
              refine g_goto (tgt := 64) dX6_under_134 (by decide) ?_
              have hk89 : hasB F k := by
                rcases h89 with ⟨z1, z2⟩ | ⟨z1, z2⟩
                · exact z2
                · exact absurd z1 (by omega)
              refine ih (k + 1) (M ||| 2 ^ (10 + (hI σ (37 + k) 4).toNat)) _ (by omega) (or_lt22 hM (pow_lt22 (by omega))) (fun a => (or_bit _ _ _).trans ?_)
              rw [hU a, pow_bit]
              unfold UnW
              constructor
              · rintro ((h | ⟨w, w1, w2⟩) | h)
                · exact Or.inl h
                · exact Or.inr ⟨w, by omega, w2⟩
                · exact Or.inr ⟨k, by omega, hk89, by show 0 ≤ hI σ (37 + k) 4; omega, by show hI σ (37 + k) 4 < (N : Int); omega, h⟩
              · rintro (h | ⟨w, w1, w2, w3, w4, w5⟩)
                · exact Or.inl (Or.inl h)
                · by_cases e : w = k
                  · subst e
                    exact Or.inr w5
                  · exact Or.inl (Or.inr ⟨w, by omega, w2, w3, w4, w5⟩)
theorem cc6_under {D : Nat} (hD : 4 ≤ D) (σ : am_HS) {b : Nat} (hf : σ.2.2 = cH b) {B : Nat} (hB : B < 2) (N : Nat) (hN : hI σ (6 + B) 0 = (N : Int)) (hN12 : N ≤ 12) (W : Nat) (hW : hI σ 0 8 = (W : Int)) (hW10 : W ≤ 10) {ed : Nat → Nat → Prop} (hNB : NBk σ B N ed) (hed : ∀ r b, r < N → ed r b → b < N ∨ (12 ≤ b ∧ b < 22)) (r0 : Nat) (hr0 : r0 < N) : am_Do lc D mX6_under σ [vR (some 0), vR (some (6 + B)), vI (r0 : Int)] (qI fun z s => (∃ G : Nat, z = (G : Int) ∧ G < 4194304 ∧ ∀ a, hasB G a ↔ a < 22 ∧ rch (EdW ed N W (fun w => hI σ (37 + w) 4)) 22 r0 (phB a)) ∧ s = σ) := by
  obtain ⟨d, rfl⟩ : ∃ d, D = d + 1 := ⟨D - 1, by omega⟩
  refine am_enter rfl rfl (Nat.le_of_ble_eq_true rfl) ?_
  have hE : ∀ k b, (EdW ed N W (fun w => hI σ (37 + w) 4)) k b → b < 22 := fun k b h => by
    rcases h with ⟨h1, h2⟩ | ⟨w, w1, w2, w3, w4, w5⟩
    · have := hed k b h1 h2
      omega
    · omega
  have lp : ∀ (m rd F : Nat) (o5 o6 o7 : Option am_V), rd + m = 22 → F < 4194304 → (∀ a, hasB F a → a < 22 ∧ rch (EdW ed N W (fun w => hI σ (37 + w) 4)) 22 r0 (phB a)) → (∀ a, a < 22 → (EdW ed N W (fun w => hI σ (37 + w) 4)) r0 (phB a) → hasB F a) → rd ≤ cntB (fun j => F.testBit j) 22 → am_Go lc d 6 8 1 cX6_under 9 [some (vR (some 0)), some (vR (some (6 + B))), some (vI (r0 : Int)), some (vI (F : Int)), some (vI (rd : Int)), o5, o6, o7] [] σ (qI fun z s => (∃ G : Nat, z = (G : Int) ∧ G < 4194304 ∧ ∀ a, hasB G a ↔ a < 22 ∧ rch (EdW ed N W (fun w => hI σ (37 + w) 4)) 22 r0 (phB a)) ∧ s = σ) := by
    intro m
    induction m with
    | zero =>
      intro rd F o5 o6 o7 hrd hF h1 h2 hc
      have hall := und_full (F := F) (by omega)
      refine g_iload dX6_under_9 rfl ?_
      refine g_bipush dX6_under_11 (by decide) ?_
      refine g_icmp_ge (tgt := 155) dX6_under_13 (by decide) (fun c13 => ?_) (fun c13 => ?_)
      · refine g_iload_n dX6_under_155 rfl ?_
        refine g_ireturn dX6_under_156 (Or.inl rfl) ⟨_, rfl, ?_⟩
        exact ⟨⟨F, rfl, hF, und_fin h1 h2 (fun j a ha _ _ => hall a ha) hE⟩, rfl⟩
      · exfalso; omega
    | succ m ih =>
      intro rd F o5 o6 o7 hrd hF h1 h2 hc
      refine g_iload dX6_under_9 rfl ?_
      refine g_bipush dX6_under_11 (by decide) ?_
      refine g_icmp_ge (tgt := 155) dX6_under_13 (by decide) (fun c13 => ?_) (fun c13 => ?_)
      · exfalso; omega
      · refine g_iload_n dX6_under_16 rfl ?_
        refine g_istore dX6_under_17 (by decide) rfl ?_
        refine g_iconst dX6_under_19 ⟨by decide, by decide⟩ ?_
        refine g_istore dX6_under_20 (by decide) rfl ?_
        refine cc6_undR (by omega) σ hf hB N hN hN12 W hW hW10 hNB hed r0 F rd hF _ (fun M o6 o7 hM hU => ?_) N 0 F (by omega) hF (fun a => ?_)
        · refine g_iconst dX6_under_61 ⟨by decide, by decide⟩ ?_
          refine g_istore dX6_under_62 (by decide) rfl ?_
          refine cc6_undW (by omega) σ hf hB N hN hN12 W hW hW10 hNB hed r0 F rd hF (fun M o6 o7 hM hU => ?_) W 0 M _ (by omega) hM (fun a => (hU a).trans ?_)
          · have hM2 : ∀ a, hasB M a ↔ hasB F a ∨ ∃ j, hasB F j ∧ a < 22 ∧ (EdW ed N W (fun w => hI σ (37 + w) 4)) (phB j) (phB a) := fun a => (hU a).trans (UnW_E hF hN12 hW10 a)
            refine g_iload dX6_under_137 rfl ?_
            refine g_iload_n dX6_under_139 rfl ?_
            refine g_icmp_ne (tgt := 146) dX6_under_140 (by decide) (fun c140 => ?_) (fun c140 => ?_)
            · refine g_iload dX6_under_146 rfl ?_
              refine g_istore_n dX6_under_148 (by decide) rfl ?_
              refine g_iinc dX6_under_149 (by decide) rfl ⟨by omega, by omega⟩ (show (rd : Int) + 1 = ((rd + 1 : Nat) : Int) from by omega) rfl ?_
              refine g_goto (tgt := 9) dX6_under_152 (by decide) ?_
              refine ih (rd + 1) M _ _ _ (by omega) hM (fun a ha => ?_) (fun a ha he => (hM2 a).mpr (Or.inl (h2 a ha he))) ?_
              · rcases (hM2 a).mp ha with h | ⟨j, j1, j2, j3⟩
                · exact h1 a h
                · have hj := h1 j j1
                  exact ⟨j2, rch_tr 22 _ _ _ (phB_lt hj.1) hj.2 (rch_up j3)⟩
              · have := und_grow hF hM (fun a ha => (hM2 a).mpr (Or.inl ha)) (by omega)
                omega
            · refine g_goto (tgt := 155) dX6_under_143 (by decide) ?_
              refine g_iload_n dX6_under_155 rfl ?_
              refine g_ireturn dX6_under_156 (Or.inl rfl) ⟨_, rfl, ?_⟩
              have hMF : M = F := by omega
              subst hMF
              exact ⟨⟨M, rfl, hF, und_fin h1 h2 (fun j a ha hj he => (hM2 a).mpr (Or.inr ⟨j, hj, ha, he⟩)) hE⟩, rfl⟩
          · unfold UnW
            exact ⟨Or.inl, fun h => h.elim id (fun ⟨w, w1, _⟩ => absurd w1 (Nat.not_lt_zero w))⟩
        · unfold UnR
          exact ⟨Or.inl, fun h => h.elim id (fun ⟨w, w1, _⟩ => absurd w1 (Nat.not_lt_zero w))⟩
  obtain ⟨g, g1, g2, g3⟩ := hNB r0 hr0
  refine g_aload_n dX6_under_0 rfl ?_
  refine g_iload_n dX6_under_1 rfl ?_
  refine g_callvI dX6_under_2 tm_6_287 rfl ⟨rfl, rfl⟩ (lc_b hB) (Nat.le_of_ble_eq_true rfl) (cc0_namedBy (by omega) σ hf hB N hN hN12 r0) (fun z2 s2 h2 => ?_)
  obtain ⟨h2, e2⟩ := h2
  obtain rfl := e2.symm
  rw [if_pos hr0, g1] at h2
  subst h2
  refine g_istore_n dX6_under_5 (by decide) rfl ?_
  refine g_iconst dX6_under_6 ⟨by decide, by decide⟩ ?_
  refine g_istore dX6_under_7 (by decide) rfl ?_
  refine lp 22 0 g _ _ _ (by omega) g2 (fun a ha => ?_) (fun a ha he => ?_) (Nat.zero_le _)
  · have := (g3 a).mp ha
    exact ⟨this.1, rch_up (Or.inl ⟨hr0, this.2⟩)⟩
  · rcases he with ⟨h1, h2⟩ | ⟨w, w1, w2, _⟩
    · exact (g3 a).mpr ⟨ha, h2⟩
    · omega
