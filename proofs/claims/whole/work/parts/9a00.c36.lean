/-! VALUES: lists -/
theorem nums_app (l m : List Vl) : nums (l ++ m) = nums l ++ nums m := by unfold nums; rw [List.filterMap_append]
theorem nums_le (l : List Vl) : (nums l).length ≤ l.length := List.length_filterMap_le ..
def ceN (V : List Vl) : List CE := ceL (V.map (fun v => (v, false)))
theorem ceN_c (v : Vl) (t : List Vl) : ceN (v :: t) = (v, 0, 2) :: ceN t := rfl
theorem ceN_fst (V : List Vl) : (ceN V).map (fun c => c.1) = V := by
  induction V with
  | nil => rfl
  | cons v t ih => rw [ceN_c, List.map_cons, ih]
theorem sumF_nums : ∀ (V : List Vl) (a : Vl), sumF false a (ceN V) = (nums V).foldl (fun acc q => addV acc q.1 q.2) a
  | [], _ => rfl
  | v :: t, a => by
    rw [ceN_c]
    show sumF false (sumS1 false a (v, 0, 2)) (ceN t) = _
    rw [sumF_nums t]
    rcases v with _ | _ | q
    · rfl
    · rfl
    · have e : sumS1 false a (some (some q), 0, 2) = addV a q.1 q.2 := by
        show addV a (if (0 : Int) ≠ 0 ∧ false = true then -q.1 else q.1) q.2 = _
        rw [if_neg (fun z => z.1 rfl)]
      rw [e]
      rfl
theorem anyX (V : List Vl) : (ceN V).any (fun c => isX c.1) = true ↔ ∃ v ∈ V, v = vX := by
  induction V with
  | nil => exact ⟨(fun h => by cases h), (fun ⟨v, h, _⟩ => by cases h)⟩
  | cons v t ih =>
    rw [ceN_c, List.any_cons, Bool.or_eq_true, ih]
    constructor
    · rintro (h | ⟨w, w1, w2⟩)
      · refine ⟨v, by simp, ?_⟩
        rcases v with _ | _ | q
        · cases h
        · rfl
        · cases h
      · exact ⟨w, by simp [w1], w2⟩
    · rintro ⟨w, w1, w2⟩
      rcases List.mem_cons.mp w1 with rfl | w1
      · left
        rw [w2]
        rfl
      · exact Or.inr ⟨w, w1, w2⟩
theorem allO {V : List Vl} (hX : ∀ v ∈ V, v ≠ vX) : (ceN V).all (fun c => isO c.1) = true ↔ nums V = [] := by
  induction V with
  | nil => exact ⟨fun _ => rfl, fun _ => rfl⟩
  | cons v t ih =>
    rw [ceN_c, List.all_cons, Bool.and_eq_true, ih (fun w hw => hX w (by simp [hw]))]
    rcases v with _ | _ | q
    · exact ⟨fun h => h.2, fun h => ⟨rfl, h⟩⟩
    · exact absurd rfl (hX vX (by simp))
    · exact ⟨(fun h => by cases h.1), (fun h => by cases h)⟩
theorem fold_pl (l : List (Int × Int)) : ∀ a : Vl, a ≠ vO → l.foldl (fun acc q => plV acc (some (some q))) a = l.foldl (fun acc q => addV acc q.1 q.2) a := by
  induction l with
  | nil => intro a _; rfl
  | cons q t ih =>
    intro a ha
    have e : plV a (some (some q)) = addV a q.1 q.2 := by
      rcases a with _ | _ | p
      · exact absurd rfl ha
      · rfl
      · rfl
    rw [List.foldl_cons, List.foldl_cons, e]
    exact ih _ (addV_nO ha)
theorem sumL_pl (l : List (Int × Int)) : sumL l = l.foldl (fun acc q => plV acc (some (some q))) (vN 0 1) := (fold_pl l (vN 0 1) (by simp)).symm
theorem sumL_one {a : Int × Int} (h : vok (some (some a))) : sumL [a] = some (some a) := addV_0 (u := a.1) (d := a.2) h
/-- what a list's cells make, by what is taken of the numbers in order -/
def pkL (op : Int) (num : Int) (L : List (Int × Int)) : List (Int × Int) := if op = 4 then (sortR qlt L).reverse.take 1 else if op = 5 then (sortR qlt L).reverse.drop (L.length - 1) else if op = 7 then (sortR qlt L).reverse.take num.toNat else (sortR qlt L).reverse.take (L.length - num.toNat)
theorem pkL_v {op num : Int} {L : List (Int × Int)} (hL : L ≠ []) (hv : ∀ a ∈ L, vok (some (some a))) (hop : op = 4 ∨ op = 5 ∨ op = 7 ∨ op = 8) : pickV op num L = sumL (pkL op num L) := by
  have hlen := sortR_len qlt L
  have hmem : ∀ a, a ∈ sortR qlt L → vok (some (some a)) := fun a ha => hv a (sortR_mem ha)
  have hne : 0 < L.length := by
    rcases L with _ | ⟨a, t⟩
    · exact absurd rfl hL
    · simp
  unfold pickV pkL
  rcases hop with rfl | rfl | rfl | rfl
  · rw [if_pos rfl, if_pos rfl]
    have hr : (sortR qlt L).reverse.length = L.length := by rw [List.length_reverse, hlen]
    have hm2 : ∀ a, a ∈ (sortR qlt L).reverse → vok (some (some a)) := fun a ha => hmem a (List.mem_reverse.mp ha)
    generalize (sortR qlt L).reverse = D at hr hm2 ⊢
    rcases D with _ | ⟨a, t⟩
    · simp at hr; omega
    · show some (some a) = sumL [a]
      rw [sumL_one (hm2 a (by simp))]
  · rw [if_neg (by decide), if_pos rfl, if_neg (by decide), if_pos rfl]
    rw [← hlen]
    generalize sortR qlt L = D at hlen hmem ⊢
    rcases D with _ | ⟨a, t⟩
    · simp at hlen; omega
    · have e : (a :: t).reverse.drop ((a :: t).length - 1) = [a] := by
        rw [List.reverse_cons, List.length_cons, Nat.add_sub_cancel, List.drop_append_of_le_length (by rw [List.length_reverse]; exact Nat.le_refl _), List.drop_eq_nil_of_le (by rw [List.length_reverse]; exact Nat.le_refl _)]
        rfl
      rw [e, sumL_one (hmem a (by simp))]
      rfl
  · rw [if_neg (by decide), if_neg (by decide), if_pos rfl, if_neg (by decide), if_neg (by decide), if_pos rfl]
  · rw [if_neg (by decide), if_neg (by decide), if_neg (by decide), if_neg (by decide), if_neg (by decide), if_neg (by decide)]
theorem ov_div {v : Vl} {n : Int} (hv : v ≠ vO) : enW (ovW (some v) n) = divV v n := by
  rcases v with _ | _ | p
  · exact absurd rfl hv
  · rfl
  · show enW (otw (nrm p.1 (p.2 * n))) = nrm p.1 (p.2 * n)
    generalize nrm p.1 (p.2 * n) = w
    rcases w with _ | _ | q <;> rfl
theorem comb_list {op num : Int} {V : List Vl} (hX : ∀ v ∈ V, v ≠ vX) (hN : nums V ≠ []) (hv : ∀ v ∈ V, vok v) (hop : 4 ≤ op ∧ op ≤ 8) : comb op num (ceN V) = if op = 6 then divV (sumL (nums V)) ((nums V).length : Int) else sumL (pkL op num (nums V)) := by
  unfold comb
  have h1 : ¬ (ceN V).any (fun c => isX c.1) = true := fun h => by
    obtain ⟨v, v1, v2⟩ := (anyX V).mp h
    exact hX v v1 v2
  have h2 : ¬ (ceN V).all (fun c => isO c.1) = true := fun h => hN ((allO hX).mp h)
  rw [if_neg h1, if_neg (fun z => z.elim h2 (fun w => absurd w.1 (by omega))), if_neg (by omega), if_neg (by omega), if_neg (by omega), ceN_fst, sumF_nums]
  by_cases h6 : op = 6
  · rw [if_pos h6, if_pos h6]
    rfl
  · rw [if_neg h6, if_neg h6, pkL_v hN (nums_ok hv) (by omega)]
/-! THE CLASS: lists -/
def LVs (s : am_HS) (F : Nat) (V : List Vl) : Prop := ∀ k v, V[k]? = some v → hL s 15 (F + k) = encV v
theorem LA.snoc {s : am_HS} {F : Nat} {L : List (Int × Int)} {a : Int × Int} (h : LA s F L) (ha : vok (some (some a))) : LA (uL s 15 (F + L.length) (encV (some (some a)))) F (L ++ [a]) := by
  intro k c hc
  rcases Nat.lt_or_ge k L.length with q | q
  · rw [List.getElem?_append_left q] at hc
    rw [hL_uL_n (by omega)]
    exact h k c hc
  · rw [List.getElem?_append_right q] at hc
    obtain ⟨t, ht⟩ : ∃ t, k = L.length + t := ⟨k - L.length, by omega⟩
    subst ht
    rw [show L.length + t - L.length = t by omega] at hc
    rcases t with _ | t
    · have e : a = c := by injection hc
      subst e
      exact hL_uL_e (encV_r ha)
    · cases hc
theorem LVs.tl {s : am_HS} {F k : Nat} {x : Int} {v : Vl} {V : List Vl} (h : LVs s F (v :: V)) (hk : k ≤ F) : LVs (uL s 15 k x) (F + 1) V := by
  intro j w hj
  rw [hL_uL_n (by omega), show F + 1 + j = F + (j + 1) by omega]
  exact h (j + 1) w hj
theorem LVs.tl0 {s : am_HS} {F : Nat} {v : Vl} {V : List Vl} (h : LVs s F (v :: V)) : LVs s (F + 1) V := by
  intro j w hj
  rw [show F + 1 + j = F + (j + 1) by omega]
  exact h (j + 1) w hj
theorem cc2_sumLp {d : Nat} (hd : 2 ≤ d) (s : am_HS) {b : Nat} (hf : s.2.2 = cH b) (op k F H fr mm : Int) (Q : Option am_V → am_HS → Prop) : ∀ (S : List (Int × Int)) (f : Nat) (acc : Vl), f + S.length ≤ 602 → LA s f S → (∀ a ∈ S, vok (some (some a))) → vok acc → (∀ (i : Int), am_Go lc d 2 11 3 cX2_ofList 240 [some (vR (some 5)), some (vI op), some (vI k), some (vI F), some (vI H), some (vI fr), some (vI ((f + S.length : Nat) : Int)), some (vI mm), some (vL (encV (S.foldl (fun acc q => plV acc (some (some q))) acc))), none, some (vI i)] [] s Q) → am_Go lc d 2 11 3 cX2_ofList 198 [some (vR (some 5)), some (vI op), some (vI k), some (vI F), some (vI H), some (vI fr), some (vI ((f + S.length : Nat) : Int)), some (vI mm), some (vL (encV acc)), none, some (vI (f : Int))] [] s Q := by
  intro S
  induction S with
  | nil =>
    intro f acc hn hl hv hacc hq
    refine g_iload dX2_ofList_198 rfl ?_
    refine g_if_lt (tgt := 240) dX2_ofList_200 (by decide) (fun c200 => ?_) (fun c200 => ?_)
    · exfalso; omega
    · refine g_iload dX2_ofList_203 rfl ?_
      refine g_iload dX2_ofList_205 rfl ?_
      refine g_icmp_ge (tgt := 240) dX2_ofList_207 (by decide) (fun c207 => ?_) (fun c207 => ?_)
      · exact hq _
      · exfalso; simp at c207
  | cons a t ih =>
    intro f acc hn hl hv hacc hq
    have hln : (a :: t).length = t.length + 1 := rfl
    have hav := hv a (by simp)
    have e0 : hL s 15 f = encV (some (some a)) := hl 0 a rfl
    refine g_iload dX2_ofList_198 rfl ?_
    refine g_if_lt (tgt := 240) dX2_ofList_200 (by decide) (fun c200 => ?_) (fun c200 => ?_)
    · exfalso; omega
    · refine g_iload dX2_ofList_203 rfl ?_
      refine g_iload dX2_ofList_205 rfl ?_
      refine g_icmp_ge (tgt := 240) dX2_ofList_207 (by decide) (fun c207 => ?_) (fun c207 => ?_)
      · exfalso; omega
      · refine g_iload dX2_ofList_210 rfl ?_
        refine g_aload_n dX2_ofList_212 rfl ?_
        refine g_getA dX2_ofList_213 tf_2_18 rfl rfl (crf hf rfl) ?_
        refine g_alen dX2_ofList_216 rfl (by decide) ?_
        refine g_icmp_ge (tgt := 240) dX2_ofList_217 (by decide) (fun c217 => ?_) (fun c217 => ?_)
        · exfalso; omega
        · refine g_lload dX2_ofList_220 rfl ?_
          refine g_aload_n dX2_ofList_222 rfl ?_
          refine g_getA dX2_ofList_223 tf_2_18 rfl rfl (crf hf rfl) ?_
          refine g_iload dX2_ofList_226 rfl ?_
          refine g_laldN (f) dX2_ofList_228 rfl (by omega) (by omega) ?_
          refine g_callsL dX2_ofList_229 tm_2_84 rfl ⟨Nat.le_of_ble_eq_true rfl, rfl, rfl⟩ (Nat.le_of_ble_eq_true rfl) (cc4_plus (by omega) s _ _ hacc hav rfl e0) (fun z229 s229 h229 => ?_)
          obtain ⟨h229, e229⟩ := h229
          obtain rfl := e229.symm
          subst h229
          refine g_lstore dX2_ofList_232 (by decide) rfl ?_
          refine g_iinc dX2_ofList_234 (by decide) rfl ⟨by omega, by omega⟩ (show (f : Int) + 1 = ((f + 1 : Nat) : Int) from by omega) rfl ?_
          refine g_goto (tgt := 198) dX2_ofList_237 (by decide) ?_
          have hT : f + (a :: t).length = f + 1 + t.length := by rw [hln]; omega
          rw [hT]
          refine ih (f + 1) (plV acc (some (some a))) (by omega) (fun j c hc => ?_) (fun c hc => hv c (by simp [hc])) (plV_ok hacc hav) (fun i => ?_)
          · rw [show f + 1 + j = f + (j + 1) by omega]
            exact hl (j + 1) c hc
          · rw [← hT]
            exact hq i
theorem cc2_scan {d : Nat} (hd : 2 ≤ d) (σ : am_HS) {b : Nat} (hf : σ.2.2 = cH b) (F : Nat) (V : List Vl) (hn : F + V.length ≤ 602) (hv : ∀ v ∈ V, vok v) (op k : Int) (Q : Option am_V → am_HS → Prop) (hx : ∀ s, (∃ v ∈ V, v = vX) → StF F V.length σ s → Q (some (vL 4294967296)) s) (hq : ∀ (s : am_HS) (o8 o9 o10 : Option am_V), (∀ v ∈ V, v ≠ vX) → StF F V.length σ s → LA s F (nums V) → am_Go lc d 2 11 3 cX2_ofList 94 [some (vR (some 5)), some (vI op), some (vI k), some (vI (F : Int)), some (vI ((F + V.length : Nat) : Int)), some (vI (F : Int)), some (vI ((F + (nums V).length : Nat) : Int)), some (vI ((F + V.length : Nat) : Int)), o8, o9, o10] [] s Q) : ∀ (U P : List Vl) (s : am_HS) (o8 o9 o10 : Option am_V), V = P ++ U → (∀ v ∈ P, v ≠ vX) → StF F V.length σ s → LA s F (nums P) → LVs s (F + P.length) U → am_Go lc d 2 11 3 cX2_ofList 9 [some (vR (some 5)), some (vI op), some (vI k), some (vI (F : Int)), some (vI ((F + V.length : Nat) : Int)), some (vI (F : Int)), some (vI ((F + (nums P).length : Nat) : Int)), some (vI ((F + P.length : Nat) : Int)), o8, o9, o10] [] s Q := by
  intro U
  induction U with
  | nil =>
    intro P s o8 o9 o10 hVP hP hst hla hU
    have hVP : V = P := by rw [hVP, List.append_nil]
    subst hVP
    refine g_iload dX2_ofList_9 rfl ?_
    refine g_if_lt (tgt := 94) dX2_ofList_11 (by decide) (fun c11 => ?_) (fun c11 => ?_)
    · exfalso; omega
    · refine g_iload dX2_ofList_14 rfl ?_
      refine g_iload dX2_ofList_16 rfl ?_
      refine g_icmp_ge (tgt := 94) dX2_ofList_18 (by decide) (fun c18 => ?_) (fun c18 => ?_)
      · exact hq s _ _ _ hP hst hla
      · exfalso; omega
  | cons v U ih =>
    intro P s o8 o9 o10 hVP hP hst hla hU
    have hfs : s.2.2 = cH b := hst.2.1.trans hf
    have hlen : V.length = P.length + (U.length + 1) := by rw [hVP, List.length_append]; rfl
    have hnl := nums_le P
    have hvv : vok v := hv v (by rw [hVP]; simp)
    have e0 : hL s 15 (F + P.length) = encV v := hU 0 v rfl
    have hVP2 : V = (P ++ [v]) ++ U := by rw [hVP, List.append_assoc]; rfl
    refine g_iload dX2_ofList_9 rfl ?_
    refine g_if_lt (tgt := 94) dX2_ofList_11 (by decide) (fun c11 => ?_) (fun c11 => ?_)
    · exfalso; omega
    · refine g_iload dX2_ofList_14 rfl ?_
      refine g_iload dX2_ofList_16 rfl ?_
      refine g_icmp_ge (tgt := 94) dX2_ofList_18 (by decide) (fun c18 => ?_) (fun c18 => ?_)
      · exfalso; omega
      · refine g_iload dX2_ofList_21 rfl ?_
        refine g_aload_n dX2_ofList_23 rfl ?_
        refine g_getA dX2_ofList_24 tf_2_18 rfl rfl (crf hfs rfl) ?_
        refine g_alen dX2_ofList_27 rfl (by decide) ?_
        refine g_icmp_ge (tgt := 94) dX2_ofList_28 (by decide) (fun c28 => ?_) (fun c28 => ?_)
        · exfalso; omega
        · refine g_iload dX2_ofList_31 rfl ?_
          refine g_aload_n dX2_ofList_33 rfl ?_
          refine g_getA dX2_ofList_34 tf_2_18 rfl rfl (crf hfs rfl) ?_
          refine g_alen dX2_ofList_37 rfl (by decide) ?_
          refine g_icmp_ge (tgt := 94) dX2_ofList_38 (by decide) (fun c38 => ?_) (fun c38 => ?_)
          · exfalso; omega
          · refine g_aload_n dX2_ofList_41 rfl ?_
            refine g_getA dX2_ofList_42 tf_2_18 rfl rfl (crf hfs rfl) ?_
            refine g_iload dX2_ofList_45 rfl ?_
            refine g_laldN (F + P.length) dX2_ofList_47 rfl (by omega) (by omega) ?_
            refine g_ldc2 dX2_ofList_48 tj_2_33 ⟨by decide, by decide⟩ ?_
            refine g_lc_ne (tgt := 59) dX2_ofList_51 dX2_ofList_52 (by decide) (fun c52 => ?_) (fun c52 => ?_)
            · have hvX : v ≠ vX := fun z => c52 (by rw [e0, z]; rfl)
              have hP2 : ∀ w ∈ P ++ [v], w ≠ vX := fun w hw => by
                rcases List.mem_append.mp hw with h | h
                · exact hP w h
                · rw [List.mem_singleton.mp h]; exact hvX
              refine g_aload_n dX2_ofList_59 rfl ?_
              refine g_getA dX2_ofList_60 tf_2_18 rfl rfl (crf hfs rfl) ?_
              refine g_iload dX2_ofList_63 rfl ?_
              refine g_laldN (F + P.length) dX2_ofList_65 rfl (by omega) (by omega) ?_
              refine g_lconst0 dX2_ofList_66 ?_
              refine g_lc_eq (tgt := 88) dX2_ofList_67 dX2_ofList_68 (by decide) (fun c68 => ?_) (fun c68 => ?_)
              · have hvO : v = vO := enc_O hvv e0 c68
                refine g_iinc dX2_ofList_88 (by decide) rfl ⟨by omega, by omega⟩ (show ((F + P.length : Nat) : Int) + 1 = ((F + (P ++ [v]).length : Nat) : Int) from by rw [List.length_append]; show ((F + P.length : Nat) : Int) + 1 = ((F + (P.length + 1) : Nat) : Int); omega) rfl ?_
                refine g_goto (tgt := 9) dX2_ofList_91 (by decide) ?_
                have en : nums (P ++ [v]) = nums P := by
                  rw [hvO, nums_app]
                  exact List.append_nil _
                have := ih (P ++ [v]) s o8 o9 o10 hVP2 hP2 hst (by rw [en]; exact hla) (by rw [List.length_append]; exact hU.tl0)
                rw [en] at this
                exact this
              · have hvO : v ≠ vO := fun z => c68 (by rw [e0, z]; rfl)
                obtain ⟨a, ha⟩ : ∃ a, v = some (some a) := by
                  rcases v with _ | _ | a
                  · exact absurd rfl hvO
                  · exact absurd rfl hvX
                  · exact ⟨a, rfl⟩
                subst ha
                refine g_aload_n dX2_ofList_71 rfl ?_
                refine g_getA dX2_ofList_72 tf_2_18 rfl rfl (crf hfs rfl) ?_
                refine g_iload dX2_ofList_75 rfl ?_
                refine g_aload_n dX2_ofList_77 rfl ?_
                refine g_getA dX2_ofList_78 tf_2_18 rfl rfl (crf hfs rfl) ?_
                refine g_iload dX2_ofList_81 rfl ?_
                refine g_laldN (F + P.length) dX2_ofList_83 rfl (by omega) (by omega) ?_
                rw [e0]
                refine g_lastN (F + (nums P).length) dX2_ofList_84 rfl (by omega) (by omega) ?_
                refine g_iinc dX2_ofList_85 (by decide) rfl ⟨by omega, by omega⟩ (show ((F + (nums P).length : Nat) : Int) + 1 = ((F + (nums (P ++ [some (some a)])).length : Nat) : Int) from by rw [nums_app, List.length_append]; show ((F + (nums P).length : Nat) : Int) + 1 = ((F + ((nums P).length + 1) : Nat) : Int); omega) rfl ?_
                refine g_iinc dX2_ofList_88 (by decide) rfl ⟨by omega, by omega⟩ (show ((F + P.length : Nat) : Int) + 1 = ((F + (P ++ [some (some a)]).length : Nat) : Int) from by rw [List.length_append]; show ((F + P.length : Nat) : Int) + 1 = ((F + (P.length + 1) : Nat) : Int); omega) rfl ?_
                refine g_goto (tgt := 9) dX2_ofList_91 (by decide) ?_
                have en : nums (P ++ [some (some a)]) = nums P ++ [a] := by
                  rw [nums_app]
                  rfl
                exact ih (P ++ [some (some a)]) _ o8 o9 o10 hVP2 hP2 (hst.u ⟨by omega, by omega⟩) (by rw [en]; exact hla.snoc hvv) (by rw [List.length_append]; exact hU.tl (by omega))
            · have hvX : v = vX := enc_X hvv e0 (Decidable.not_not.mp c52)
              refine g_ldc2 dX2_ofList_55 tj_2_33 ⟨by decide, by decide⟩ ?_
              refine g_lreturn dX2_ofList_58 rfl ?_
              exact hx s ⟨v, by rw [hVP]; simp, hvX⟩ hst
