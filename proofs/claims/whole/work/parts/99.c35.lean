/-! THE CLASS: numbers in order -/
/-- numbers that lie on the stack from F on -/
def LA (s : am_HS) (F : Nat) (L : List (Int × Int)) : Prop := ∀ k a, L[k]? = some a → hL s 15 (F + k) = encV (some (some a))
/-- all but the stack's cells from F to F + n stand -/
def StF (F n : Nat) (σ s : am_HS) : Prop := s.1 = σ.1 ∧ s.2.2 = σ.2.2 ∧ ∀ o j, ¬ (o = 15 ∧ F ≤ j ∧ j < F + n) → hL s o j = hL σ o j
theorem StF.rf (F n : Nat) (σ : am_HS) : StF F n σ σ := ⟨rfl, rfl, fun _ _ _ => rfl⟩
theorem StF.tr {F n F2 n2 : Nat} {σ s u : am_HS} (h : StF F n σ s) (h2 : StF F2 n2 s u) (hF : F ≤ F2 ∧ F2 + n2 ≤ F + n) : StF F n σ u := ⟨h2.1.trans h.1, h2.2.1.trans h.2.1, fun o j q => (h2.2.2 o j (fun z => q ⟨z.1, by omega, by omega⟩)).trans (h.2.2 o j q)⟩
theorem StF.u {F n k : Nat} {x : Int} {σ s : am_HS} (h : StF F n σ s) (hk : F ≤ k ∧ k < F + n) : StF F n σ (uL s 15 k x) := ⟨h.1, h.2.1, fun o j q => (hL_uL_n (fun z => q ⟨z.1, by omega, by omega⟩)).trans (h.2.2 o j q)⟩
theorem StF.hI {F n : Nat} {σ s : am_HS} (h : StF F n σ s) (o j : Nat) : hI s o j = hI σ o j := by unfold _root_.Jvm.Pilot.@@N@@.hI; rw [h.1]
theorem LA.swap {s : am_HS} {F : Nat} {A R : List (Int × Int)} {a y : Int × Int} (h : LA s F (A ++ a :: y :: R)) (ha : vok (some (some a))) (hy : vok (some (some y))) : LA (uL (uL s 15 (F + A.length) (encV (some (some y)))) 15 (F + A.length + 1) (encV (some (some a)))) F (A ++ y :: a :: R) := by
  intro k c hc
  rcases Nat.lt_or_ge k A.length with q | q
  · rw [List.getElem?_append_left q] at hc
    rw [hL_uL_n (by omega), hL_uL_n (by omega)]
    exact h k c (by rw [List.getElem?_append_left q]; exact hc)
  · rw [List.getElem?_append_right q] at hc
    obtain ⟨t, ht⟩ : ∃ t, k = A.length + t := ⟨k - A.length, by omega⟩
    subst ht
    rw [show A.length + t - A.length = t by omega] at hc
    rcases t with _ | _ | t
    · have e : y = c := by injection hc
      subst e
      rw [hL_uL_n (by omega)]
      exact hL_uL_e (encV_r hy)
    · have e : a = c := by injection hc
      subst e
      rw [show F + (A.length + (0 + 1)) = F + A.length + 1 by omega, hL_uL_e (encV_r ha)]
    · rw [hL_uL_n (by omega), hL_uL_n (by omega)]
      refine h _ c ?_
      rw [List.getElem?_append_right (by omega), show A.length + (t + 1 + 1) - A.length = t + 1 + 1 by omega]
      exact hc
theorem LA.at2 {s : am_HS} {F : Nat} {A R : List (Int × Int)} {a y : Int × Int} (h : LA s F (A ++ a :: y :: R)) : hL s 15 (F + A.length) = encV (some (some a)) ∧ hL s 15 (F + A.length + 1) = encV (some (some y)) := by
  refine ⟨h A.length a (by simp), ?_⟩
  have := h (A.length + 1) y (by simp)
  rw [show F + A.length + 1 = F + (A.length + 1) by omega]
  exact this
theorem cc2_sortI {d : Nat} (hd : 2 ≤ d) (σ : am_HS) {b : Nat} (hf : σ.2.2 = cH b) (F n : Nat) (hn : F + n ≤ 602) (T : Int) (i : Nat) (y : Int × Int) (R AS : List (Int × Int)) (hv : ∀ a ∈ y :: AS, vok (some (some a))) (Q : Option am_V → am_HS → Prop) (hq : ∀ (A S : List (Int × Int)) (s : am_HS) (o4 o5 o6 : Option am_V), A ++ S = AS → (∀ a ∈ S, qlt a y = true) → (∀ A' a, A = A' ++ [a] → qlt a y = false) → StF F n σ s → LA s F (A ++ y :: (S ++ R)) → am_Go lc d 2 7 0 cX2_sortDown 96 [some (vR (some 5)), some (vI (F : Int)), some (vI T), some (vI (i : Int)), o4, o5, o6] [] s Q) : ∀ (m : Nat) (A S : List (Int × Int)) (s : am_HS) (o5 o6 : Option am_V), A.length = m → A ++ S = AS → (∀ a ∈ S, qlt a y = true) → F + A.length + 1 ≤ F + n → StF F n σ s → LA s F (A ++ y :: (S ++ R)) → am_Go lc d 2 7 0 cX2_sortDown 21 [some (vR (some 5)), some (vI (F : Int)), some (vI T), some (vI (i : Int)), some (vI ((F + m : Nat) : Int)), o5, o6] [] s Q := by
  intro m
  induction m with
  | zero =>
    intro A S s o5 o6 hm hAS hS hAn hst hla
    have hA : A = [] := List.length_eq_zero_iff.mp hm
    subst hA
    refine g_iload dX2_sortDown_21 rfl ?_
    refine g_iload_n dX2_sortDown_23 rfl ?_
    refine g_icmp_le (tgt := 96) dX2_sortDown_24 (by decide) (fun c24 => ?_) (fun c24 => ?_)
    · exact hq [] S s _ _ _ hAS hS (fun A' a h => by simp at h) hst hla
    · exfalso; omega
  | succ m ih =>
    intro A S s o5 o6 hm hAS hS hAn hst hla
    have hfs : s.2.2 = cH b := hst.2.1.trans hf
    obtain ⟨A', a, hA⟩ : ∃ A' a, A = A' ++ [a] := by
      rcases List.eq_nil_or_concat A with h | ⟨l, a, h⟩
      · subst h; simp at hm
      · exact ⟨l, a, by rw [h, List.concat_eq_append]⟩
    subst hA
    rw [List.length_append, List.length_singleton] at hm hAn
    have hm' : A'.length = m := by omega
    subst hm'
    rw [List.append_assoc, List.singleton_append] at hla
    have hav : vok (some (some a)) := hv a (by rw [← hAS]; simp)
    have hyv : vok (some (some y)) := hv y (by simp)
    obtain ⟨e1, e2⟩ := hla.at2
    have hra := encV_r hav
    have hry := encV_r hyv
    have hqa : ltV (some (some a)) (some (some y)) ↔ qlt a y = true := by
      unfold qlt
      rw [decide_eq_true_iff]
      exact Iff.rfl
    refine g_iload dX2_sortDown_21 rfl ?_
    refine g_iload_n dX2_sortDown_23 rfl ?_
    refine g_icmp_le (tgt := 96) dX2_sortDown_24 (by decide) (fun c24 => ?_) (fun c24 => ?_)
    · exfalso; omega
    · refine g_iload dX2_sortDown_27 rfl ?_
      refine g_if_le (tgt := 96) dX2_sortDown_29 (by decide) (fun c29 => ?_) (fun c29 => ?_)
      · exfalso; omega
      · refine g_aload_n dX2_sortDown_32 rfl ?_
        refine g_getA dX2_sortDown_33 tf_2_18 rfl rfl (crf hfs rfl) ?_
        refine g_iload dX2_sortDown_36 rfl ?_
        refine g_iconst dX2_sortDown_38 ⟨by decide, by decide⟩ ?_
        refine g_isub dX2_sortDown_39 rfl ⟨by omega, by omega⟩ ?_
        refine g_laldN (F + A'.length) dX2_sortDown_40 rfl (by omega) (by omega) ?_
        refine g_aload_n dX2_sortDown_41 rfl ?_
        refine g_getA dX2_sortDown_42 tf_2_18 rfl rfl (crf hfs rfl) ?_
        refine g_iload dX2_sortDown_45 rfl ?_
        refine g_laldN (F + A'.length + 1) dX2_sortDown_47 rfl (by omega) (by omega) ?_
        refine g_callsI dX2_sortDown_48 tm_2_124 rfl ⟨Nat.le_of_ble_eq_true rfl, rfl, rfl⟩ (Nat.le_of_ble_eq_true rfl) (cc4_isLess (by omega) s _ _ hav hyv e1 e2) (fun z48 s48 h48 => ?_)
        obtain ⟨h48, e48⟩ := h48
        obtain rfl := e48.symm
        refine g_if_eq (tgt := 96) dX2_sortDown_51 (by decide) (fun c51 => ?_) (fun c51 => ?_)
        · refine hq (A' ++ [a]) S s _ _ _ hAS hS (fun A2 a2 h => ?_) hst (by rw [List.append_assoc, List.singleton_append]; exact hla)
          have he : a = a2 := by
            have := congrArg List.getLast? h
            simpa using this
          subst he
          rcases h48 with ⟨z1, z2⟩ | ⟨z1, z2⟩
          · exact absurd z1 (by omega)
          · cases hx : qlt a y
            · rfl
            · exact absurd (hqa.mpr hx) z2
        · refine g_aload_n dX2_sortDown_54 rfl ?_
          refine g_getA dX2_sortDown_55 tf_2_18 rfl rfl (crf hfs rfl) ?_
          refine g_iload dX2_sortDown_58 rfl ?_
          refine g_iconst dX2_sortDown_60 ⟨by decide, by decide⟩ ?_
          refine g_isub dX2_sortDown_61 rfl ⟨by omega, by omega⟩ ?_
          refine g_laldN (F + A'.length) dX2_sortDown_62 rfl (by omega) (by omega) ?_
          rw [e1]
          refine g_lstore dX2_sortDown_63 (by decide) rfl ?_
          refine g_aload_n dX2_sortDown_65 rfl ?_
          refine g_getA dX2_sortDown_66 tf_2_18 rfl rfl (crf hfs rfl) ?_
          refine g_iload dX2_sortDown_69 rfl ?_
          refine g_iconst dX2_sortDown_71 ⟨by decide, by decide⟩ ?_
          refine g_isub dX2_sortDown_72 rfl ⟨by omega, by omega⟩ ?_
          refine g_aload_n dX2_sortDown_73 rfl ?_
          refine g_getA dX2_sortDown_74 tf_2_18 rfl rfl (crf hfs rfl) ?_
          refine g_iload dX2_sortDown_77 rfl ?_
          refine g_laldN (F + A'.length + 1) dX2_sortDown_79 rfl (by omega) (by omega) ?_
          rw [e2]
          refine g_lastN (F + A'.length) dX2_sortDown_80 rfl (by omega) (by omega) ?_
          refine g_aload_n dX2_sortDown_81 rfl ?_
          refine g_getA dX2_sortDown_82 tf_2_18 rfl rfl (crf hfs rfl) ?_
          refine g_iload dX2_sortDown_85 rfl ?_
          refine g_lload dX2_sortDown_87 rfl ?_
          refine g_lastN (F + A'.length + 1) dX2_sortDown_89 rfl (by omega) (by omega) ?_
          refine g_iinc dX2_sortDown_90 (by decide) rfl ⟨by omega, by omega⟩ (show ((F + (A'.length + 1) : Nat) : Int) + -1 = ((F + A'.length : Nat) : Int) from by omega) rfl ?_
          refine g_goto (tgt := 21) dX2_sortDown_93 (by decide) ?_
          have hlt : qlt a y = true := by
            rcases h48 with ⟨z1, z2⟩ | ⟨z1, z2⟩
            · exact hqa.mp z2
            · exact absurd z1 (by omega)
          refine ih A' (a :: S) _ _ _ rfl (by rw [← hAS]; simp) (fun c hc => ?_) (by omega) ((hst.u ⟨by omega, by omega⟩).u ⟨by omega, by omega⟩) (hla.swap hav hyv)
          rcases List.mem_cons.mp hc with rfl | hc
          · exact hlt
          · exact hS c hc
theorem sort_in {A S : List (Int × Int)} {y : Int × Int} (hS : ∀ a ∈ S, qlt a y = true) (hA : ∀ A' a, A = A' ++ [a] → qlt a y = false) : A ++ y :: S = (insR qlt y (A ++ S).reverse).reverse := by
  rw [List.reverse_append, insR_split S.reverse A.reverse (fun a ha => hS a (List.mem_reverse.mp ha)) (fun a t h => hA t.reverse a (by rw [← List.reverse_reverse A, h, List.reverse_cons]))]
  simp
theorem cc2_sortDown {D : Nat} (hD : 3 ≤ D) (σ : am_HS) {b : Nat} (hf : σ.2.2 = cH b) (F : Nat) (L : List (Int × Int)) (hn : F + L.length ≤ 602) (hv : ∀ a ∈ L, vok (some (some a))) (hla : LA σ F L) : am_Do lc D mX2_sortDown σ [vR (some 5), vI (F : Int), vI ((F + L.length : Nat) : Int)] (qV fun s => StF F L.length σ s ∧ LA s F (sortR qlt L).reverse) := by
  obtain ⟨d, rfl⟩ : ∃ d, D = d + 1 := ⟨D - 1, by omega⟩
  refine am_enter rfl rfl (Nat.le_of_ble_eq_true rfl) ?_
  have lp : ∀ (m k : Nat) (s : am_HS) (o4 o5 o6 : Option am_V), k + m = L.length → 1 ≤ k → StF F L.length σ s → LA s F ((sortR qlt (L.take k)).reverse ++ L.drop k) → am_Go lc d 2 7 0 cX2_sortDown 4 [some (vR (some 5)), some (vI (F : Int)), some (vI ((F + L.length : Nat) : Int)), some (vI ((F + k : Nat) : Int)), o4, o5, o6] [] s (qV fun s => StF F L.length σ s ∧ LA s F (sortR qlt L).reverse) := by
    intro m
    induction m with
    | zero =>
      intro k s o4 o5 o6 hk hk1 hst hl
      have e : k = L.length := by omega
      subst e
      rw [List.take_length, List.drop_length, List.append_nil] at hl
      refine g_iload_n dX2_sortDown_4 rfl ?_
      refine g_iload_n dX2_sortDown_5 rfl ?_
      refine g_icmp_ge (tgt := 102) dX2_sortDown_6 (by decide) (fun c6 => ?_) (fun c6 => ?_)
      · refine g_return dX2_sortDown_102 rfl ⟨rfl, ?_⟩
        exact ⟨hst, hl⟩
      · exfalso; omega
    | succ m ih =>
      intro k s o4 o5 o6 hk hk1 hst hl
      have hfs : s.2.2 = cH b := hst.2.1.trans hf
      obtain ⟨y, hy⟩ : ∃ y, L[k]? = some y := ⟨L[k]'(by omega), List.getElem?_eq_getElem (by omega)⟩
      have hdr : L.drop k = y :: L.drop (k + 1) := by
        rw [List.drop_eq_getElem_cons (by omega)]
        have : L[k]'(by omega) = y := by
          rw [List.getElem?_eq_getElem (by omega)] at hy
          injection hy
        rw [this]
      have htk : L.take (k + 1) = L.take k ++ [y] := by
        rw [List.take_add_one, hy]
        rfl
      have hyL : y ∈ L := List.mem_of_getElem? hy
      have hlen : (sortR qlt (L.take k)).reverse.length = k := by
        rw [List.length_reverse, sortR_len, List.length_take]
        omega
      rw [hdr] at hl
      have hvs : ∀ a ∈ y :: (sortR qlt (L.take k)).reverse, vok (some (some a)) := fun a ha => by
        rcases List.mem_cons.mp ha with rfl | ha
        · exact hv _ hyL
        · exact hv a (List.mem_of_mem_take (sortR_mem (List.mem_reverse.mp ha)))
      refine g_iload_n dX2_sortDown_4 rfl ?_
      refine g_iload_n dX2_sortDown_5 rfl ?_
      refine g_icmp_ge (tgt := 102) dX2_sortDown_6 (by decide) (fun c6 => ?_) (fun c6 => ?_)
      · exfalso; omega
      · refine g_iload_n dX2_sortDown_9 rfl ?_
        refine g_aload_n dX2_sortDown_10 rfl ?_
        refine g_getA dX2_sortDown_11 tf_2_18 rfl rfl (crf hfs rfl) ?_
        refine g_alen dX2_sortDown_14 rfl (by decide) ?_
        refine g_icmp_ge (tgt := 102) dX2_sortDown_15 (by decide) (fun c15 => ?_) (fun c15 => ?_)
        · exfalso; omega
        · refine g_iload_n dX2_sortDown_18 rfl ?_
          refine g_istore dX2_sortDown_19 (by decide) rfl ?_
          refine cc2_sortI (by omega) σ hf F L.length hn _ (F + k) y (L.drop (k + 1)) (sortR qlt (L.take k)).reverse hvs _ (fun A S s1 o4 o5 o6 hAS hS hA hst1 hla1 => ?_) k (sortR qlt (L.take k)).reverse [] s _ _ hlen (List.append_nil _) (fun a ha => by cases ha) (by rw [hlen]; omega) hst hl
          rw [← List.cons_append, ← List.append_assoc, sort_in hS hA, hAS, List.reverse_reverse, ← sortR_snoc, ← htk] at hla1
          refine g_iinc dX2_sortDown_96 (by decide) rfl ⟨by omega, by omega⟩ (show ((F + k : Nat) : Int) + 1 = ((F + (k + 1) : Nat) : Int) from by omega) rfl ?_
          refine g_goto (tgt := 4) dX2_sortDown_99 (by decide) ?_
          exact ih (k + 1) s1 _ _ _ (by omega) (by omega) hst1 hla1
  by_cases h0 : L.length = 0
  · have hL : L = [] := List.length_eq_zero_iff.mp h0
    subst hL
    refine g_iload_n dX2_sortDown_0 rfl ?_
    refine g_iconst dX2_sortDown_1 ⟨by decide, by decide⟩ ?_
    refine g_iadd dX2_sortDown_2 rfl ⟨by omega, by omega⟩ ?_
    refine g_istore_n dX2_sortDown_3 (by decide) rfl ?_
    refine g_iload_n dX2_sortDown_4 rfl ?_
    refine g_iload_n dX2_sortDown_5 rfl ?_
    refine g_icmp_ge (tgt := 102) dX2_sortDown_6 (by decide) (fun c6 => ?_) (fun c6 => ?_)
    · refine g_return dX2_sortDown_102 rfl ⟨rfl, ?_⟩
      exact ⟨StF.rf _ _ _, hla⟩
    · exfalso; omega
  · have hL1 : sortR qlt (L.take 1) = L.take 1 := by
      rcases L with _ | ⟨a, t⟩
      · exact absurd rfl h0
      · rfl
    have hl0 : LA σ F ((sortR qlt (L.take 1)).reverse ++ L.drop 1) := by
      rcases L with _ | ⟨a, t⟩
      · exact absurd rfl h0
      · exact hla
    refine g_iload_n dX2_sortDown_0 rfl ?_
    refine g_iconst dX2_sortDown_1 ⟨by decide, by decide⟩ ?_
    refine g_iadd dX2_sortDown_2 rfl ⟨by omega, by omega⟩ ?_
    rw [show (F : Int) + 1 = ((F + 1 : Nat) : Int) from by omega]
    refine g_istore_n dX2_sortDown_3 (by decide) rfl ?_
    exact lp (L.length - 1) 1 σ _ _ _ (by omega) (Nat.le_refl _) (StF.rf _ _ _) hl0
