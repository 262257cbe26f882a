/-! THE REFERENCE: need, count -/
theorem cm_need {D : Nat} (hD : 4 ≤ D) (σ : am_HS) (hf : σ.2.2 = mH) (hb : rgM σ) (hg : GM σ) {N n : Nat} {lo hi ρ : Nat → Nat} {ev : Nat → Den} {td : TD} (hR : BK N n lo hi ρ ev td σ) (hm : hI σ 23 N = (n : Int)) (fr : Nat → Nat) (W : Nat) (hfr : ∀ r, r ≤ n → hI σ 26 (13 * N + r) = (fr r : Int) ∧ fr r ≤ 1600) (hmon : ∀ r, r < n → fr r ≤ fr (r + 1)) (hW : hI σ 0 2 = (W : Int)) (hnd : ∀ r k, r < n → fr r ≤ k → k < fr (r + 1) → hI σ 17 (1600 * N + k) = 1 → (0 ≤ hI σ 18 (1600 * N + k) ∧ hI σ 18 (1600 * N + k) < 12) ∨ (100 ≤ hI σ 18 (1600 * N + k) ∧ hI σ 18 (1600 * N + k) < 110)) (w r q : Int) : am_Do lm D mX7_need σ [vR (some 0), vI w, vI r, vI q] (qI fun z s => (¬ ((0 ≤ w ∧ w < hI σ 0 2) ∧ (r = -1 ∨ (0 ≤ r ∧ r < (n : Int)))) ∧ z = -1 ∧ s = uI σ 1 1 (hI σ 1 1 + 1)) ∨ (((0 ≤ w ∧ w < hI σ 0 2) ∧ (r = -1 ∨ (0 ≤ r ∧ r < (n : Int)))) ∧ q < 0 ∧ z = -4 ∧ s = uI σ 1 4 (hI σ 1 4 + 1)) ∨ (((0 ≤ w ∧ w < hI σ 0 2) ∧ (r = -1 ∨ (0 ≤ r ∧ r < (n : Int)))) ∧ 9999 < q ∧ z = -6 ∧ s = uI σ 1 6 (hI σ 1 6 + 1)) ∨ (((0 ≤ w ∧ w < hI σ 0 2) ∧ (r = -1 ∨ (0 ≤ r ∧ r < (n : Int)))) ∧ 0 ≤ q ∧ q ≤ 9999 ∧ (∃ k, k < 22 ∧ rch (EM (uI σ 7 w.toNat r) N n W fr) 22 k k) ∧ z = -5 ∧ FrM (uI σ 1 5 (hI σ 1 5 + 1)) s) ∨ (((0 ≤ w ∧ w < hI σ 0 2) ∧ (r = -1 ∨ (0 ≤ r ∧ r < (n : Int)))) ∧ 0 ≤ q ∧ q ≤ 9999 ∧ ¬ (∃ k, k < 22 ∧ rch (EM (uI σ 7 w.toNat r) N n W fr) 22 k k) ∧ z = 1 ∧ FrM (uI (uI σ 7 w.toNat r) 8 w.toNat q) s)) := by
  obtain ⟨hg1, hg2, hrf⟩ := id hg
  have hnow : hI σ 0 42 = (N : Int) := hR.1.2.2.1
  have hN2 : N < 2 := hR.1.2.1
  have hn12 : n ≤ 12 := hR.1.1
  obtain ⟨d, rfl⟩ : ∃ d, D = d + 1 := ⟨D - 1, by omega⟩
  refine am_enter rfl rfl (Nat.le_of_ble_eq_true rfl) ?_
  refine g_aload_n dX7_need_0 rfl ?_
  refine g_iload_n dX7_need_1 rfl ?_
  refine g_callvI dX7_need_2 tm_7_156 rfl ⟨rfl, rfl⟩ rfl (Nat.le_of_ble_eq_true rfl) (cm_isWork (by omega) σ _) (fun z2 s2 h2 => ?_)
  obtain ⟨h2, e2⟩ := h2
  obtain rfl := e2.symm
  refine g_if_eq (tgt := 21) dX7_need_5 (by decide) (fun c5 => ?_) (fun c5 => ?_)
  · refine g_aload_n dX7_need_21 rfl ?_
    refine g_iconst dX7_need_22 ⟨by decide, by decide⟩ ?_
    refine g_callvI dX7_need_23 tm_7_133 rfl ⟨rfl, rfl⟩ rfl (Nat.le_of_ble_eq_true rfl) (cm_refuse (by omega) σ hf _ ⟨by omega, by omega⟩ hg.2.2) (fun z23 s23 h23 => ?_)
    obtain ⟨rfl, rfl⟩ := h23
    refine g_ireturn dX7_need_26 (Or.inl rfl) ⟨_, rfl, ?_⟩
    first
      | exact Or.inl ⟨by omega, rfl, rfl⟩
      | exact Or.inr (Or.inl ⟨by omega, by omega, rfl, rfl⟩)
      | exact Or.inr (Or.inr (Or.inl ⟨by omega, by omega, rfl, rfl⟩))
      | fail
  · refine g_iload_n dX7_need_8 rfl ?_
    refine g_iconst dX7_need_9 ⟨by decide, by decide⟩ ?_
    refine g_icmp_eq (tgt := 27) dX7_need_10 (by decide) (fun c10 => ?_) (fun c10 => ?_)
    · refine g_iload_n dX7_need_27 rfl ?_
      refine g_if_ge (tgt := 38) dX7_need_28 (by decide) (fun c28 => ?_) (fun c28 => ?_)
      · refine g_iload_n dX7_need_38 rfl ?_
        refine g_sipush dX7_need_39 (by decide) ?_
        refine g_icmp_le (tgt := 52) dX7_need_42 (by decide) (fun c42 => ?_) (fun c42 => ?_)
        · obtain ⟨w, rfl⟩ : ∃ q : Nat, w = (q : Int) := ⟨w.toNat, by omega⟩
          have hw10 : w < 10 := by omega
          have hrr : r = -1 ∨ (0 ≤ r ∧ r < (n : Int)) := by omega
          have hb1 : rgM (uI σ 7 w r) := by
            intro o j
            by_cases e : o = 7 ∧ j = w
            · obtain ⟨rfl, rfl⟩ := e
              rw [hI_uI_e ⟨by omega, by omega⟩]
              exact ⟨by show (-1 : Int) ≤ r; omega, by show r ≤ (11 : Int); omega⟩
            · rw [hI_uI_n (by omega)]
              exact hb o j
          refine g_aload_n dX7_need_52 rfl ?_
          refine g_getA dX7_need_53 tf_7_28 rfl rfl (mrf hf rfl) ?_
          refine g_iload_n dX7_need_56 rfl ?_
          refine g_ialdN (w) dX7_need_57 rfl (by omega) (by omega) ?_
          refine g_istore dX7_need_58 (by decide) rfl ?_
          refine g_aload_n dX7_need_60 rfl ?_
          refine g_getA dX7_need_61 tf_7_28 rfl rfl (mrf hf rfl) ?_
          refine g_iload_n dX7_need_64 rfl ?_
          refine g_iload_n dX7_need_65 rfl ?_
          refine g_iastN (w) dX7_need_66 rfl (by omega) (by omega) ?_
          refine g_aload_n dX7_need_67 rfl ?_
          refine g_aload_n dX7_need_68 rfl ?_
          refine g_getI dX7_need_69 tf_7_148 rfl rfl ?_
          rw [hI_uI_n (by omega), hnow]
          refine g_callvV dX7_need_72 tm_7_277 rfl ⟨rfl, rfl⟩ rfl (Nat.le_of_ble_eq_true rfl) (cm_findHangs (by omega) (uI σ 7 w r) hf hb1 N n W fr hN2 ((hI_uI_n (by omega)).trans hm) hn12 (fun a ha => by rw [hI_uI_n (by omega)]; exact hfr a ha) hmon ((hI_uI_n (by omega)).trans hW) (by omega) (fun a k h1 h2 h3 h4 => by rw [hI_uI_n (by omega)] at h4; rw [hI_uI_n (by omega)]; exact hnd a k h1 h2 h3 h4)) (fun s72 h72 => ?_)
          have hf0 := hf
          obtain ⟨G, rfl, hG, hB⟩ := h72
          have hf : (hs28 (uI σ 7 w r) G).2.2 = mH := hf0
          refine g_aload_n dX7_need_75 rfl ?_
          refine g_callvI dX7_need_76 tm_7_280 rfl ⟨rfl, rfl⟩ rfl (Nat.le_of_ble_eq_true rfl) (cm_isRing (by omega) (uI σ 7 w r) hf0 G hG) (fun z76 s76 h76 => ?_)
          obtain ⟨h76, e76⟩ := h76
          obtain rfl := e76.symm
          have hiff : (∃ k, k < 22 ∧ hasB (G k) k) ↔ (∃ k, k < 22 ∧ rch (EM (uI σ 7 w r) N n W fr) 22 k k) := ⟨fun ⟨k, h1, h2⟩ => ⟨k, h1, (hB k h1 k).mp h2⟩, fun ⟨k, h1, h2⟩ => ⟨k, h1, (hB k h1 k).mpr h2⟩⟩
          rw [hiff] at h76
          have hfr1 : FrM (uI σ 7 w r) (hs28 (uI σ 7 w r) G) := FrM_hs _ G
          have h1r : ∀ k, hI (uI (hs28 (uI σ 7 w r) G) 7 w (hI σ 7 w)) 1 k = hI σ 1 k := fun k => by rw [hI_uI_n (by omega), hfr1.a (by decide) (by decide), hI_uI_n (by omega)]
          refine g_if_eq (tgt := 97) dX7_need_79 (by decide) (fun c79 => ?_) (fun c79 => ?_)
          · refine g_aload_n dX7_need_97 rfl ?_
            refine g_getA dX7_need_98 tf_7_31 rfl rfl (mrf hf rfl) ?_
            refine g_iload_n dX7_need_101 rfl ?_
            refine g_iload_n dX7_need_102 rfl ?_
            refine g_iastN (w) dX7_need_103 rfl (by omega) (by omega) ?_
            refine g_iconst dX7_need_104 ⟨by decide, by decide⟩ ?_
            refine g_ireturn dX7_need_105 (Or.inl rfl) ⟨_, rfl, ?_⟩
            have hrg : ¬ ∃ k, k < 22 ∧ rch (EM (uI σ 7 w r) N n W fr) 22 k k := by
              rcases h76 with ⟨a, b⟩ | ⟨a, b⟩
              · rw [a] at c79
                exact absurd c79 (by decide)
              · exact b
            exact Or.inr (Or.inr (Or.inr (Or.inr ⟨⟨by clear h76 hrg hiff; omega, hrr⟩, by clear h76 hrg hiff; omega, by clear h76 hrg hiff; omega, hrg, rfl, FrM_put hfr1 8 w q⟩)))
          · refine g_aload_n dX7_need_82 rfl ?_
            refine g_getA dX7_need_83 tf_7_28 rfl rfl (mrf hf rfl) ?_
            refine g_iload_n dX7_need_86 rfl ?_
            refine g_iload dX7_need_87 rfl ?_
            refine g_iastN (w) dX7_need_89 rfl (by omega) (by omega) ?_
            refine g_aload_n dX7_need_90 rfl ?_
            refine g_bipush dX7_need_91 (by decide) ?_
            refine g_callvI dX7_need_93 tm_7_133 rfl ⟨rfl, rfl⟩ rfl (Nat.le_of_ble_eq_true rfl) (cm_refuse (by omega) (uI (hs28 (uI σ 7 w r) G) 7 w (hI σ 7 w)) hf _ ⟨by omega, by omega⟩ (fun k hk => by rw [h1r]; exact hrf k hk)) (fun z93 s93 h93 => ?_)
            obtain ⟨rfl, rfl⟩ := h93
            refine g_ireturn dX7_need_96 (Or.inl rfl) ⟨_, rfl, ?_⟩
            have hrg : ∃ k, k < 22 ∧ rch (EM (uI σ 7 w r) N n W fr) 22 k k := by
              rcases h76 with ⟨a, b⟩ | ⟨a, b⟩
              · exact b
              · exact absurd a c79
            refine Or.inr (Or.inr (Or.inr (Or.inl ⟨⟨by clear h76 hrg hiff; omega, hrr⟩, by clear h76 hrg hiff; omega, by clear h76 hrg hiff; omega, hrg, rfl, ?_⟩)))
            rw [show (-(-5 : Int)).toNat = 5 from rfl, h1r]
            have hbk : FrM σ (uI (hs28 (uI σ 7 w r) G) 7 w (hI σ 7 w)) := by
              refine ⟨rfl, fun a b hk => ?_⟩
              by_cases e : a = 7 ∧ b = w
              · obtain ⟨rfl, rfl⟩ := e
                exact hI_uI_e (hI_r _ _ _)
              · rw [hI_uI_n e, hfr1.2 a b hk, hI_uI_n e]
            exact FrM_put hbk 1 5 _
        · refine g_aload_n dX7_need_45 rfl ?_
          refine g_bipush dX7_need_46 (by decide) ?_
          refine g_callvI dX7_need_48 tm_7_133 rfl ⟨rfl, rfl⟩ rfl (Nat.le_of_ble_eq_true rfl) (cm_refuse (by omega) σ hf _ ⟨by omega, by omega⟩ hg.2.2) (fun z48 s48 h48 => ?_)
          obtain ⟨rfl, rfl⟩ := h48
          refine g_ireturn dX7_need_51 (Or.inl rfl) ⟨_, rfl, ?_⟩
          first
            | exact Or.inl ⟨by omega, rfl, rfl⟩
            | exact Or.inr (Or.inl ⟨by omega, by omega, rfl, rfl⟩)
            | exact Or.inr (Or.inr (Or.inl ⟨by omega, by omega, rfl, rfl⟩))
            | fail
      · refine g_aload_n dX7_need_31 rfl ?_
        refine g_bipush dX7_need_32 (by decide) ?_
        refine g_callvI dX7_need_34 tm_7_133 rfl ⟨rfl, rfl⟩ rfl (Nat.le_of_ble_eq_true rfl) (cm_refuse (by omega) σ hf _ ⟨by omega, by omega⟩ hg.2.2) (fun z34 s34 h34 => ?_)
        obtain ⟨rfl, rfl⟩ := h34
        refine g_ireturn dX7_need_37 (Or.inl rfl) ⟨_, rfl, ?_⟩
        first
          | exact Or.inl ⟨by omega, rfl, rfl⟩
          | exact Or.inr (Or.inl ⟨by omega, by omega, rfl, rfl⟩)
          | exact Or.inr (Or.inr (Or.inl ⟨by omega, by omega, rfl, rfl⟩))
          | fail
    · refine g_aload_n dX7_need_13 rfl ?_
      refine g_iload_n dX7_need_14 rfl ?_
      refine g_callvI dX7_need_15 tm_7_289 rfl ⟨rfl, rfl⟩ rfl (Nat.le_of_ble_eq_true rfl) (cm_isRule (by omega) σ hf (by have := hR.1.2.1; have := hR.1.2.2.1; omega) _) (fun z15 s15 h15 => ?_)
      obtain ⟨h15, e15⟩ := h15
      obtain rfl := e15.symm
      rw [hR.1.2.2.1, Int.toNat_natCast, hm] at h15
      refine g_if_ne (tgt := 27) dX7_need_18 (by decide) (fun c18 => ?_) (fun c18 => ?_)
      · refine g_iload_n dX7_need_27 rfl ?_
        refine g_if_ge (tgt := 38) dX7_need_28 (by decide) (fun c28 => ?_) (fun c28 => ?_)
        · refine g_iload_n dX7_need_38 rfl ?_
          refine g_sipush dX7_need_39 (by decide) ?_
          refine g_icmp_le (tgt := 52) dX7_need_42 (by decide) (fun c42 => ?_) (fun c42 => ?_)
          · obtain ⟨w, rfl⟩ : ∃ q : Nat, w = (q : Int) := ⟨w.toNat, by omega⟩
            have hw10 : w < 10 := by omega
            have hrr : r = -1 ∨ (0 ≤ r ∧ r < (n : Int)) := by omega
            have hb1 : rgM (uI σ 7 w r) := by
              intro o j
              by_cases e : o = 7 ∧ j = w
              · obtain ⟨rfl, rfl⟩ := e
                rw [hI_uI_e ⟨by omega, by omega⟩]
                exact ⟨by show (-1 : Int) ≤ r; omega, by show r ≤ (11 : Int); omega⟩
              · rw [hI_uI_n (by omega)]
                exact hb o j
            refine g_aload_n dX7_need_52 rfl ?_
            refine g_getA dX7_need_53 tf_7_28 rfl rfl (mrf hf rfl) ?_
            refine g_iload_n dX7_need_56 rfl ?_
            refine g_ialdN (w) dX7_need_57 rfl (by omega) (by omega) ?_
            refine g_istore dX7_need_58 (by decide) rfl ?_
            refine g_aload_n dX7_need_60 rfl ?_
            refine g_getA dX7_need_61 tf_7_28 rfl rfl (mrf hf rfl) ?_
            refine g_iload_n dX7_need_64 rfl ?_
            refine g_iload_n dX7_need_65 rfl ?_
            refine g_iastN (w) dX7_need_66 rfl (by omega) (by omega) ?_
            refine g_aload_n dX7_need_67 rfl ?_
            refine g_aload_n dX7_need_68 rfl ?_
            refine g_getI dX7_need_69 tf_7_148 rfl rfl ?_
            rw [hI_uI_n (by omega), hnow]
            refine g_callvV dX7_need_72 tm_7_277 rfl ⟨rfl, rfl⟩ rfl (Nat.le_of_ble_eq_true rfl) (cm_findHangs (by omega) (uI σ 7 w r) hf hb1 N n W fr hN2 ((hI_uI_n (by omega)).trans hm) hn12 (fun a ha => by rw [hI_uI_n (by omega)]; exact hfr a ha) hmon ((hI_uI_n (by omega)).trans hW) (by omega) (fun a k h1 h2 h3 h4 => by rw [hI_uI_n (by omega)] at h4; rw [hI_uI_n (by omega)]; exact hnd a k h1 h2 h3 h4)) (fun s72 h72 => ?_)
            have hf0 := hf
            obtain ⟨G, rfl, hG, hB⟩ := h72
            have hf : (hs28 (uI σ 7 w r) G).2.2 = mH := hf0
            refine g_aload_n dX7_need_75 rfl ?_
            refine g_callvI dX7_need_76 tm_7_280 rfl ⟨rfl, rfl⟩ rfl (Nat.le_of_ble_eq_true rfl) (cm_isRing (by omega) (uI σ 7 w r) hf0 G hG) (fun z76 s76 h76 => ?_)
            obtain ⟨h76, e76⟩ := h76
            obtain rfl := e76.symm
            have hiff : (∃ k, k < 22 ∧ hasB (G k) k) ↔ (∃ k, k < 22 ∧ rch (EM (uI σ 7 w r) N n W fr) 22 k k) := ⟨fun ⟨k, h1, h2⟩ => ⟨k, h1, (hB k h1 k).mp h2⟩, fun ⟨k, h1, h2⟩ => ⟨k, h1, (hB k h1 k).mpr h2⟩⟩
            rw [hiff] at h76
            have hfr1 : FrM (uI σ 7 w r) (hs28 (uI σ 7 w r) G) := FrM_hs _ G
            have h1r : ∀ k, hI (uI (hs28 (uI σ 7 w r) G) 7 w (hI σ 7 w)) 1 k = hI σ 1 k := fun k => by rw [hI_uI_n (by omega), hfr1.a (by decide) (by decide), hI_uI_n (by omega)]
            refine g_if_eq (tgt := 97) dX7_need_79 (by decide) (fun c79 => ?_) (fun c79 => ?_)
            · refine g_aload_n dX7_need_97 rfl ?_
              refine g_getA dX7_need_98 tf_7_31 rfl rfl (mrf hf rfl) ?_
              refine g_iload_n dX7_need_101 rfl ?_
              refine g_iload_n dX7_need_102 rfl ?_
              refine g_iastN (w) dX7_need_103 rfl (by omega) (by omega) ?_
              refine g_iconst dX7_need_104 ⟨by decide, by decide⟩ ?_
              refine g_ireturn dX7_need_105 (Or.inl rfl) ⟨_, rfl, ?_⟩
              have hrg : ¬ ∃ k, k < 22 ∧ rch (EM (uI σ 7 w r) N n W fr) 22 k k := by
                rcases h76 with ⟨a, b⟩ | ⟨a, b⟩
                · rw [a] at c79
                  exact absurd c79 (by decide)
                · exact b
              exact Or.inr (Or.inr (Or.inr (Or.inr ⟨⟨by clear h76 hrg hiff; omega, hrr⟩, by clear h76 hrg hiff; omega, by clear h76 hrg hiff; omega, hrg, rfl, FrM_put hfr1 8 w q⟩)))
            · refine g_aload_n dX7_need_82 rfl ?_
              refine g_getA dX7_need_83 tf_7_28 rfl rfl (mrf hf rfl) ?_
              refine g_iload_n dX7_need_86 rfl ?_
              refine g_iload dX7_need_87 rfl ?_
              refine g_iastN (w) dX7_need_89 rfl (by omega) (by omega) ?_
              refine g_aload_n dX7_need_90 rfl ?_
              refine g_bipush dX7_need_91 (by decide) ?_
              refine g_callvI dX7_need_93 tm_7_133 rfl ⟨rfl, rfl⟩ rfl (Nat.le_of_ble_eq_true rfl) (cm_refuse (by omega) (uI (hs28 (uI σ 7 w r) G) 7 w (hI σ 7 w)) hf _ ⟨by omega, by omega⟩ (fun k hk => by rw [h1r]; exact hrf k hk)) (fun z93 s93 h93 => ?_)
              obtain ⟨rfl, rfl⟩ := h93
              refine g_ireturn dX7_need_96 (Or.inl rfl) ⟨_, rfl, ?_⟩
              have hrg : ∃ k, k < 22 ∧ rch (EM (uI σ 7 w r) N n W fr) 22 k k := by
                rcases h76 with ⟨a, b⟩ | ⟨a, b⟩
                · exact b
                · exact absurd a c79
              refine Or.inr (Or.inr (Or.inr (Or.inl ⟨⟨by clear h76 hrg hiff; omega, hrr⟩, by clear h76 hrg hiff; omega, by clear h76 hrg hiff; omega, hrg, rfl, ?_⟩)))
              rw [show (-(-5 : Int)).toNat = 5 from rfl, h1r]
              have hbk : FrM σ (uI (hs28 (uI σ 7 w r) G) 7 w (hI σ 7 w)) := by
                refine ⟨rfl, fun a b hk => ?_⟩
                by_cases e : a = 7 ∧ b = w
                · obtain ⟨rfl, rfl⟩ := e
                  exact hI_uI_e (hI_r _ _ _)
                · rw [hI_uI_n e, hfr1.2 a b hk, hI_uI_n e]
              exact FrM_put hbk 1 5 _
          · refine g_aload_n dX7_need_45 rfl ?_
            refine g_bipush dX7_need_46 (by decide) ?_
            refine g_callvI dX7_need_48 tm_7_133 rfl ⟨rfl, rfl⟩ rfl (Nat.le_of_ble_eq_true rfl) (cm_refuse (by omega) σ hf _ ⟨by omega, by omega⟩ hg.2.2) (fun z48 s48 h48 => ?_)
            obtain ⟨rfl, rfl⟩ := h48
            refine g_ireturn dX7_need_51 (Or.inl rfl) ⟨_, rfl, ?_⟩
            first
              | exact Or.inl ⟨by omega, rfl, rfl⟩
              | exact Or.inr (Or.inl ⟨by omega, by omega, rfl, rfl⟩)
              | exact Or.inr (Or.inr (Or.inl ⟨by omega, by omega, rfl, rfl⟩))
              | fail
        · refine g_aload_n dX7_need_31 rfl ?_
          refine g_bipush dX7_need_32 (by decide) ?_
          refine g_callvI dX7_need_34 tm_7_133 rfl ⟨rfl, rfl⟩ rfl (Nat.le_of_ble_eq_true rfl) (cm_refuse (by omega) σ hf _ ⟨by omega, by omega⟩ hg.2.2) (fun z34 s34 h34 => ?_)
          obtain ⟨rfl, rfl⟩ := h34
          refine g_ireturn dX7_need_37 (Or.inl rfl) ⟨_, rfl, ?_⟩
          first
            | exact Or.inl ⟨by omega, rfl, rfl⟩
            | exact Or.inr (Or.inl ⟨by omega, by omega, rfl, rfl⟩)
            | exact Or.inr (Or.inr (Or.inl ⟨by omega, by omega, rfl, rfl⟩))
            | fail
      · refine g_aload_n dX7_need_21 rfl ?_
        refine g_iconst dX7_need_22 ⟨by decide, by decide⟩ ?_
        refine g_callvI dX7_need_23 tm_7_133 rfl ⟨rfl, rfl⟩ rfl (Nat.le_of_ble_eq_true rfl) (cm_refuse (by omega) σ hf _ ⟨by omega, by omega⟩ hg.2.2) (fun z23 s23 h23 => ?_)
        obtain ⟨rfl, rfl⟩ := h23
        refine g_ireturn dX7_need_26 (Or.inl rfl) ⟨_, rfl, ?_⟩
        first
          | exact Or.inl ⟨by omega, rfl, rfl⟩
          | exact Or.inr (Or.inl ⟨by omega, by omega, rfl, rfl⟩)
          | exact Or.inr (Or.inr (Or.inl ⟨by omega, by omega, rfl, rfl⟩))
          | fail

/-- what 'count' answers -/
def cntA (σ : am_HS) (N : Nat) (q : Int) : Int := if 10 < q ∧ q < 18 then hI σ 1 (q - 10).toNat else if q = 0 then hI σ 0 1 else if q = 1 then hI σ 0 2 else if q = 2 then hI σ 23 N else if q = 3 then hI σ 0 3 else if q = 4 then hI σ 0 23 else if q = 5 then hI σ 0 4 else if q = 6 then hI σ 0 5 else if q = 7 then hI σ 0 6 else if q = 8 then (if hI σ 27 N = 0 then 0 else 1) else if q = 18 then hI σ 0 7 else -9
theorem cm_count {D : Nat} (hD : 4 ≤ D) (σ : am_HS) (hf : σ.2.2 = mH) {N : Nat} (hnow : hI σ 0 42 = (N : Int)) (hN2 : N < 2) (q : Int) : am_Do lm D mX7_count σ [vR (some 0), vI q] (qI fun z s => z = cntA σ N q ∧ s = σ) := by
  obtain ⟨d, rfl⟩ : ∃ d, D = d + 1 := ⟨D - 1, by omega⟩
  refine am_enter rfl rfl (Nat.le_of_ble_eq_true rfl) ?_
  refine g_iload_n dX7_count_0 rfl ?_
  refine g_bipush dX7_count_1 (by decide) ?_
  refine g_icmp_le (tgt := 22) dX7_count_3 (by decide) (fun c3 => ?_) (fun c3 => ?_)
  · refine g_iload_n dX7_count_22 rfl ?_
    refine g_table dX7_count_23 (fun h => ⟨180, rfl, ?_⟩) (fun h1 h2 => ?_)
    · skip
      refine g_bipush dX7_count_180 (by decide) ?_
      refine g_ireturn dX7_count_182 (Or.inl rfl) ⟨_, rfl, ?_⟩
      refine ⟨?_, rfl⟩
      unfold cntA
      rw [if_neg (by omega), if_neg (by omega), if_neg (by omega), if_neg (by omega), if_neg (by omega), if_neg (by omega), if_neg (by omega), if_neg (by omega), if_neg (by omega), if_neg (by omega), if_neg (by omega)]
    rcases (show q = 0 ∨ q = 1 ∨ q = 2 ∨ q = 3 ∨ q = 4 ∨ q = 5 ∨ q = 6 ∨ q = 7 ∨ q = 8 ∨ q = 9 ∨ q = 10 ∨ q = 18 by omega) with ho | ho | ho | ho | ho | ho | ho | ho | ho | ho | ho | ho
    · refine ⟨89, 112, by rw [ho]; rfl, by decide, ?_⟩
      refine g_aload_n dX7_count_112 rfl ?_
      refine g_getI dX7_count_113 tf_7_137 rfl rfl ?_
      refine g_ireturn dX7_count_116 (Or.inl rfl) ⟨_, rfl, ?_⟩
      refine ⟨?_, rfl⟩
      unfold cntA
      rw [if_neg (by omega), if_pos ho]
    · refine ⟨94, 117, by rw [ho]; rfl, by decide, ?_⟩
      refine g_aload_n dX7_count_117 rfl ?_
      refine g_getI dX7_count_118 tf_7_145 rfl rfl ?_
      refine g_ireturn dX7_count_121 (Or.inl rfl) ⟨_, rfl, ?_⟩
      refine ⟨?_, rfl⟩
      unfold cntA
      rw [if_neg (by omega), if_neg (by omega), if_pos ho]
    · refine ⟨99, 122, by rw [ho]; rfl, by decide, ?_⟩
      refine g_aload_n dX7_count_122 rfl ?_
      refine g_getA dX7_count_123 tf_7_77 rfl rfl (mrf hf rfl) ?_
      refine g_aload_n dX7_count_126 rfl ?_
      refine g_getI dX7_count_127 tf_7_148 rfl rfl ?_
      rw [hnow]
      refine g_ialdN (N) dX7_count_130 rfl (by omega) (by omega) ?_
      refine g_ireturn dX7_count_131 (Or.inl rfl) ⟨_, rfl, ?_⟩
      refine ⟨?_, rfl⟩
      unfold cntA
      rw [if_neg (by omega), if_neg (by omega), if_neg (by omega), if_pos ho]
    · refine ⟨109, 132, by rw [ho]; rfl, by decide, ?_⟩
      refine g_aload_n dX7_count_132 rfl ?_
      refine g_getI dX7_count_133 tf_7_163 rfl rfl ?_
      refine g_ireturn dX7_count_136 (Or.inl rfl) ⟨_, rfl, ?_⟩
      refine ⟨?_, rfl⟩
      unfold cntA
      rw [if_neg (by omega), if_neg (by omega), if_neg (by omega), if_neg (by omega), if_pos ho]
    · refine ⟨114, 137, by rw [ho]; rfl, by decide, ?_⟩
      refine g_aload_n dX7_count_137 rfl ?_
      refine g_getI dX7_count_138 tf_7_166 rfl rfl ?_
      refine g_ireturn dX7_count_141 (Or.inl rfl) ⟨_, rfl, ?_⟩
      refine ⟨?_, rfl⟩
      unfold cntA
      rw [if_neg (by omega), if_neg (by omega), if_neg (by omega), if_neg (by omega), if_neg (by omega), if_pos ho]
    · refine ⟨119, 142, by rw [ho]; rfl, by decide, ?_⟩
      refine g_aload_n dX7_count_142 rfl ?_
      refine g_getI dX7_count_143 tf_7_366 rfl rfl ?_
      refine g_ireturn dX7_count_146 (Or.inl rfl) ⟨_, rfl, ?_⟩
      refine ⟨?_, rfl⟩
      unfold cntA
      rw [if_neg (by omega), if_neg (by omega), if_neg (by omega), if_neg (by omega), if_neg (by omega), if_neg (by omega), if_pos ho]
    · refine ⟨124, 147, by rw [ho]; rfl, by decide, ?_⟩
      refine g_aload_n dX7_count_147 rfl ?_
      refine g_getI dX7_count_148 tf_7_379 rfl rfl ?_
      refine g_ireturn dX7_count_151 (Or.inl rfl) ⟨_, rfl, ?_⟩
      refine ⟨?_, rfl⟩
      unfold cntA
      rw [if_neg (by omega), if_neg (by omega), if_neg (by omega), if_neg (by omega), if_neg (by omega), if_neg (by omega), if_neg (by omega), if_pos ho]
    · refine ⟨129, 152, by rw [ho]; rfl, by decide, ?_⟩
      refine g_aload_n dX7_count_152 rfl ?_
      refine g_getI dX7_count_153 tf_7_388 rfl rfl ?_
      refine g_ireturn dX7_count_156 (Or.inl rfl) ⟨_, rfl, ?_⟩
      refine ⟨?_, rfl⟩
      unfold cntA
      rw [if_neg (by omega), if_neg (by omega), if_neg (by omega), if_neg (by omega), if_neg (by omega), if_neg (by omega), if_neg (by omega), if_neg (by omega), if_pos ho]
    · refine ⟨134, 157, by rw [ho]; rfl, by decide, ?_⟩
      refine g_aload_n dX7_count_157 rfl ?_
      refine g_getA dX7_count_158 tf_7_89 rfl rfl (mrf hf rfl) ?_
      refine g_aload_n dX7_count_161 rfl ?_
      refine g_getI dX7_count_162 tf_7_148 rfl rfl ?_
      rw [hnow]
      refine g_zaldN (N) dX7_count_165 rfl (by omega) (by omega) ?_
      refine g_if_eq (tgt := 173) dX7_count_166 (by decide) (fun c166 => ?_) (fun c166 => ?_)
      · refine g_iconst dX7_count_173 ⟨by decide, by decide⟩ ?_
        refine g_ireturn dX7_count_174 (Or.inl rfl) ⟨_, rfl, ?_⟩
        refine ⟨?_, rfl⟩
        unfold cntA
        rw [if_neg (by omega), if_neg (by omega), if_neg (by omega), if_neg (by omega), if_neg (by omega), if_neg (by omega), if_neg (by omega), if_neg (by omega), if_neg (by omega), if_pos ho]
        first
          | (rw [if_pos (by omega)]; done)
          | (rw [if_neg (by omega)]; done)
      · refine g_iconst dX7_count_169 ⟨by decide, by decide⟩ ?_
        refine g_goto (tgt := 174) dX7_count_170 (by decide) ?_
        refine g_ireturn dX7_count_174 (Or.inl rfl) ⟨_, rfl, ?_⟩
        refine ⟨?_, rfl⟩
        unfold cntA
        rw [if_neg (by omega), if_neg (by omega), if_neg (by omega), if_neg (by omega), if_neg (by omega), if_neg (by omega), if_neg (by omega), if_neg (by omega), if_neg (by omega), if_pos ho]
        first
          | (rw [if_pos (by omega)]; done)
          | (rw [if_neg (by omega)]; done)
    · refine ⟨157, 180, by rw [ho]; rfl, by decide, ?_⟩
      refine g_bipush dX7_count_180 (by decide) ?_
      refine g_ireturn dX7_count_182 (Or.inl rfl) ⟨_, rfl, ?_⟩
      refine ⟨?_, rfl⟩
      unfold cntA
      rw [if_neg (by omega), if_neg (by omega), if_neg (by omega), if_neg (by omega), if_neg (by omega), if_neg (by omega), if_neg (by omega), if_neg (by omega), if_neg (by omega), if_neg (by omega), if_neg (by omega)]
    · refine ⟨157, 180, by rw [ho]; rfl, by decide, ?_⟩
      refine g_bipush dX7_count_180 (by decide) ?_
      refine g_ireturn dX7_count_182 (Or.inl rfl) ⟨_, rfl, ?_⟩
      refine ⟨?_, rfl⟩
      unfold cntA
      rw [if_neg (by omega), if_neg (by omega), if_neg (by omega), if_neg (by omega), if_neg (by omega), if_neg (by omega), if_neg (by omega), if_neg (by omega), if_neg (by omega), if_neg (by omega), if_neg (by omega)]
    · refine ⟨152, 175, by rw [ho]; rfl, by decide, ?_⟩
      refine g_aload_n dX7_count_175 rfl ?_
      refine g_getI dX7_count_176 tf_7_262 rfl rfl ?_
      refine g_ireturn dX7_count_179 (Or.inl rfl) ⟨_, rfl, ?_⟩
      refine ⟨?_, rfl⟩
      unfold cntA
      rw [if_neg (by omega), if_neg (by omega), if_neg (by omega), if_neg (by omega), if_neg (by omega), if_neg (by omega), if_neg (by omega), if_neg (by omega), if_neg (by omega), if_neg (by omega), if_pos ho]
  · refine g_iload_n dX7_count_6 rfl ?_
    refine g_bipush dX7_count_7 (by decide) ?_
    refine g_icmp_ge (tgt := 22) dX7_count_9 (by decide) (fun c9 => ?_) (fun c9 => ?_)
    · refine g_iload_n dX7_count_22 rfl ?_
      refine g_table dX7_count_23 (fun h => ⟨180, rfl, ?_⟩) (fun h1 h2 => ?_)
      · skip
        refine g_bipush dX7_count_180 (by decide) ?_
        refine g_ireturn dX7_count_182 (Or.inl rfl) ⟨_, rfl, ?_⟩
        refine ⟨?_, rfl⟩
        unfold cntA
        rw [if_neg (by omega), if_neg (by omega), if_neg (by omega), if_neg (by omega), if_neg (by omega), if_neg (by omega), if_neg (by omega), if_neg (by omega), if_neg (by omega), if_neg (by omega), if_neg (by omega)]
      rcases (show q = 0 ∨ q = 1 ∨ q = 2 ∨ q = 3 ∨ q = 4 ∨ q = 5 ∨ q = 6 ∨ q = 7 ∨ q = 8 ∨ q = 9 ∨ q = 10 ∨ q = 18 by omega) with ho | ho | ho | ho | ho | ho | ho | ho | ho | ho | ho | ho
      · refine ⟨89, 112, by rw [ho]; rfl, by decide, ?_⟩
        refine g_aload_n dX7_count_112 rfl ?_
        refine g_getI dX7_count_113 tf_7_137 rfl rfl ?_
        refine g_ireturn dX7_count_116 (Or.inl rfl) ⟨_, rfl, ?_⟩
        refine ⟨?_, rfl⟩
        unfold cntA
        rw [if_neg (by omega), if_pos ho]
      · refine ⟨94, 117, by rw [ho]; rfl, by decide, ?_⟩
        refine g_aload_n dX7_count_117 rfl ?_
        refine g_getI dX7_count_118 tf_7_145 rfl rfl ?_
        refine g_ireturn dX7_count_121 (Or.inl rfl) ⟨_, rfl, ?_⟩
        refine ⟨?_, rfl⟩
        unfold cntA
        rw [if_neg (by omega), if_neg (by omega), if_pos ho]
      · refine ⟨99, 122, by rw [ho]; rfl, by decide, ?_⟩
        refine g_aload_n dX7_count_122 rfl ?_
        refine g_getA dX7_count_123 tf_7_77 rfl rfl (mrf hf rfl) ?_
        refine g_aload_n dX7_count_126 rfl ?_
        refine g_getI dX7_count_127 tf_7_148 rfl rfl ?_
        rw [hnow]
        refine g_ialdN (N) dX7_count_130 rfl (by omega) (by omega) ?_
        refine g_ireturn dX7_count_131 (Or.inl rfl) ⟨_, rfl, ?_⟩
        refine ⟨?_, rfl⟩
        unfold cntA
        rw [if_neg (by omega), if_neg (by omega), if_neg (by omega), if_pos ho]
      · refine ⟨109, 132, by rw [ho]; rfl, by decide, ?_⟩
        refine g_aload_n dX7_count_132 rfl ?_
        refine g_getI dX7_count_133 tf_7_163 rfl rfl ?_
        refine g_ireturn dX7_count_136 (Or.inl rfl) ⟨_, rfl, ?_⟩
        refine ⟨?_, rfl⟩
        unfold cntA
        rw [if_neg (by omega), if_neg (by omega), if_neg (by omega), if_neg (by omega), if_pos ho]
      · refine ⟨114, 137, by rw [ho]; rfl, by decide, ?_⟩
        refine g_aload_n dX7_count_137 rfl ?_
        refine g_getI dX7_count_138 tf_7_166 rfl rfl ?_
        refine g_ireturn dX7_count_141 (Or.inl rfl) ⟨_, rfl, ?_⟩
        refine ⟨?_, rfl⟩
        unfold cntA
        rw [if_neg (by omega), if_neg (by omega), if_neg (by omega), if_neg (by omega), if_neg (by omega), if_pos ho]
      · refine ⟨119, 142, by rw [ho]; rfl, by decide, ?_⟩
        refine g_aload_n dX7_count_142 rfl ?_
        refine g_getI dX7_count_143 tf_7_366 rfl rfl ?_
        refine g_ireturn dX7_count_146 (Or.inl rfl) ⟨_, rfl, ?_⟩
        refine ⟨?_, rfl⟩
        unfold cntA
        rw [if_neg (by omega), if_neg (by omega), if_neg (by omega), if_neg (by omega), if_neg (by omega), if_neg (by omega), if_pos ho]
      · refine ⟨124, 147, by rw [ho]; rfl, by decide, ?_⟩
        refine g_aload_n dX7_count_147 rfl ?_
        refine g_getI dX7_count_148 tf_7_379 rfl rfl ?_
        refine g_ireturn dX7_count_151 (Or.inl rfl) ⟨_, rfl, ?_⟩
        refine ⟨?_, rfl⟩
        unfold cntA
        rw [if_neg (by omega), if_neg (by omega), if_neg (by omega), if_neg (by omega), if_neg (by omega), if_neg (by omega), if_neg (by omega), if_pos ho]
      · refine ⟨129, 152, by rw [ho]; rfl, by decide, ?_⟩
        refine g_aload_n dX7_count_152 rfl ?_
        refine g_getI dX7_count_153 tf_7_388 rfl rfl ?_
        refine g_ireturn dX7_count_156 (Or.inl rfl) ⟨_, rfl, ?_⟩
        refine ⟨?_, rfl⟩
        unfold cntA
        rw [if_neg (by omega), if_neg (by omega), if_neg (by omega), if_neg (by omega), if_neg (by omega), if_neg (by omega), if_neg (by omega), if_neg (by omega), if_pos ho]
      · refine ⟨134, 157, by rw [ho]; rfl, by decide, ?_⟩
        refine g_aload_n dX7_count_157 rfl ?_
        refine g_getA dX7_count_158 tf_7_89 rfl rfl (mrf hf rfl) ?_
        refine g_aload_n dX7_count_161 rfl ?_
        refine g_getI dX7_count_162 tf_7_148 rfl rfl ?_
        rw [hnow]
        refine g_zaldN (N) dX7_count_165 rfl (by omega) (by omega) ?_
        refine g_if_eq (tgt := 173) dX7_count_166 (by decide) (fun c166 => ?_) (fun c166 => ?_)
        · refine g_iconst dX7_count_173 ⟨by decide, by decide⟩ ?_
          refine g_ireturn dX7_count_174 (Or.inl rfl) ⟨_, rfl, ?_⟩
          refine ⟨?_, rfl⟩
          unfold cntA
          rw [if_neg (by omega), if_neg (by omega), if_neg (by omega), if_neg (by omega), if_neg (by omega), if_neg (by omega), if_neg (by omega), if_neg (by omega), if_neg (by omega), if_pos ho]
          first
            | (rw [if_pos (by omega)]; done)
            | (rw [if_neg (by omega)]; done)
        · refine g_iconst dX7_count_169 ⟨by decide, by decide⟩ ?_
          refine g_goto (tgt := 174) dX7_count_170 (by decide) ?_
          refine g_ireturn dX7_count_174 (Or.inl rfl) ⟨_, rfl, ?_⟩
          refine ⟨?_, rfl⟩
          unfold cntA
          rw [if_neg (by omega), if_neg (by omega), if_neg (by omega), if_neg (by omega), if_neg (by omega), if_neg (by omega), if_neg (by omega), if_neg (by omega), if_neg (by omega), if_pos ho]
          first
            | (rw [if_pos (by omega)]; done)
            | (rw [if_neg (by omega)]; done)
      · refine ⟨157, 180, by rw [ho]; rfl, by decide, ?_⟩
        refine g_bipush dX7_count_180 (by decide) ?_
        refine g_ireturn dX7_count_182 (Or.inl rfl) ⟨_, rfl, ?_⟩
        refine ⟨?_, rfl⟩
        unfold cntA
        rw [if_neg (by omega), if_neg (by omega), if_neg (by omega), if_neg (by omega), if_neg (by omega), if_neg (by omega), if_neg (by omega), if_neg (by omega), if_neg (by omega), if_neg (by omega), if_neg (by omega)]
      · refine ⟨157, 180, by rw [ho]; rfl, by decide, ?_⟩
        refine g_bipush dX7_count_180 (by decide) ?_
        refine g_ireturn dX7_count_182 (Or.inl rfl) ⟨_, rfl, ?_⟩
        refine ⟨?_, rfl⟩
        unfold cntA
        rw [if_neg (by omega), if_neg (by omega), if_neg (by omega), if_neg (by omega), if_neg (by omega), if_neg (by omega), if_neg (by omega), if_neg (by omega), if_neg (by omega), if_neg (by omega), if_neg (by omega)]
      · refine ⟨152, 175, by rw [ho]; rfl, by decide, ?_⟩
        refine g_aload_n dX7_count_175 rfl ?_
        refine g_getI dX7_count_176 tf_7_262 rfl rfl ?_
        refine g_ireturn dX7_count_179 (Or.inl rfl) ⟨_, rfl, ?_⟩
        refine ⟨?_, rfl⟩
        unfold cntA
        rw [if_neg (by omega), if_neg (by omega), if_neg (by omega), if_neg (by omega), if_neg (by omega), if_neg (by omega), if_neg (by omega), if_neg (by omega), if_neg (by omega), if_neg (by omega), if_pos ho]
    · refine g_aload_n dX7_count_12 rfl ?_
      refine g_getA dX7_count_13 tf_7_7 rfl rfl (mrf hf rfl) ?_
      refine g_iload_n dX7_count_16 rfl ?_
      refine g_bipush dX7_count_17 (by decide) ?_
      refine g_isub dX7_count_19 rfl ⟨by omega, by omega⟩ ?_
      refine g_iald dX7_count_20 rfl ⟨by omega, by omega⟩ ?_
      refine g_ireturn dX7_count_21 (Or.inl rfl) ⟨_, rfl, ?_⟩
      exact ⟨(if_pos ⟨by omega, by omega⟩).symm, rfl⟩

