/-! THE REFERENCE: 'goes' -/
def putT (tk : Nat → Int) (w : Nat) (v : Int) : Nat → Int := fun a => if a = w then v else tk a
/-- all marks of the works of the list tried, in order -/
def goF (mo : Nat → Nat) (f : (Nat → Int) → Vl) : List Nat → (Nat → Int) → Acc → Acc
  | [], tk, a => accS a (f tk)
  | w :: t, tk, a => (List.range (mo w + 1)).foldl (fun (a : Acc) (v : Nat) => goF mo f t (putT tk w (v : Int)) a) a
theorem goF_congr {mo : Nat → Nat} {f : (Nat → Int) → Vl} : ∀ {t : List Nat} {tk tk2 : Nat → Int} {a : Acc}, (∀ x, x ∉ t → tk x = tk2 x) → goF mo f t tk a = goF mo f t tk2 a
  | [], tk, tk2, a, h => by
    have e : tk = tk2 := funext fun x => h x (by simp)
    rw [e]
  | w :: t, tk, tk2, a, h => by
    have e : (fun (a : Acc) (v : Nat) => goF mo f t (putT tk w (v : Int)) a) = (fun (a : Acc) (v : Nat) => goF mo f t (putT tk2 w (v : Int)) a) := by
      funext a v
      refine goF_congr (fun x hx => ?_)
      unfold putT
      by_cases q : x = w
      · rw [if_pos q, if_pos q]
      · rw [if_neg q, if_neg q]
        exact h x (fun q2 => by rcases List.mem_cons.mp q2 with q3 | q3; exact q q3; exact hx q3)
    show (List.range (mo w + 1)).foldl _ a = (List.range (mo w + 1)).foldl _ a
    rw [e]
theorem goF_ok {mo : Nat → Nat} {f : (Nat → Int) → Vl} : ∀ {t : List Nat} {tk : Nat → Int} {a : Acc}, (∀ w ∈ t, mo w ≤ 20) → (∀ tk, (∀ w, -1 ≤ tk w ∧ tk w ≤ 20) → vok (f tk)) → (∀ w, -1 ≤ tk w ∧ tk w ≤ 20) → accO a → accO (goF mo f t tk a)
  | [], tk, a, _, h, ht, ha => accO_S ha (h tk ht)
  | w :: t, tk, a, hm, h, ht, ha => by
    have key : ∀ (l : List Nat), (∀ v ∈ l, v ≤ 20) → ∀ a, accO a → accO (l.foldl (fun (a : Acc) (v : Nat) => goF mo f t (putT tk w (v : Int)) a) a) := by
      intro l
      induction l with
      | nil => intro _ a ha; exact ha
      | cons v l ih =>
        intro hl a ha
        refine ih (fun x hx => hl x (by simp [hx])) _ ?_
        refine goF_ok (t := t) (fun x hx => hm x (by simp [hx])) h (fun x => ?_) ha
        have := hl v (by simp)
        unfold putT
        split
        · omega
        · exact ht x
    refine key _ (fun v hv => ?_) a ha
    have h1 := List.mem_range.mp hv
    have h2 := hm w (by simp)
    omega
theorem drop_get {L : List Nat} {i w : Nat} {t : List Nat} (h : L.drop i = w :: t) : i < L.length ∧ L.getD i 0 = w ∧ L.drop (i + 1) = t := by
  have hi : i < L.length := by
    rcases Nat.lt_or_ge i L.length with h1 | h1
    · exact h1
    · rw [List.drop_eq_nil_of_le h1] at h
      cases h
  rw [List.drop_eq_getElem_cons hi] at h
  injection h with h1 h2
  refine ⟨hi, ?_, h2⟩
  rw [List.getD_eq_getElem?_getD, List.getElem?_eq_getElem hi]
  exact h1
theorem range_succ_foldl {β : Type} (f : β → Nat → β) (a : β) (n : Nat) : (List.range (n + 1)).foldl f a = f ((List.range n).foldl f a) n := by
  rw [List.range_succ, List.foldl_append]
  rfl
def moM (σ : am_HS) (w : Nat) : Nat := (hI σ 4 w).toNat

theorem cm_goes (σ : am_HS) (hb : rgM σ) {N n : Nat} {lo hi ρ : Nat → Nat} {ev : Nat → Den} {td : TD} (hR : BK N n lo hi ρ ev td σ) {rv : Nat → (Nat → Int) → Nat → Vl} (hV : ∀ (p : Nat) (tk : Nat → Int), p < 6 → (∀ w, -1 ≤ tk w ∧ tk w ≤ 20) → RV n ev (fun w => mtM σ p w (tk w)) (rv p tk)) {p r : Nat} (hp : p < 6) (hr : r < n) (L : List Nat) (hLw : ∀ w ∈ L, w < 10) (hLn : L.length ≤ 10) : ∀ (t : List Nat) (i : Nat), i ≤ L.length → L.drop i = t → ∀ (D : Nat), 771 + t.length ≤ D → ∀ (tk : Nat → Int), (∀ w, -1 ≤ tk w ∧ tk w ≤ 20) → ∀ (a : Acc), accO a → ∀ (s : am_HS), TS σ p tk s → OpL L s → Ac a s → am_Do lm D mX7_goes s [vR (some 0), vI (r : Int), vI (i : Int)] (qV fun u => ∃ tk2 : Nat → Int, (∀ w, -1 ≤ tk2 w ∧ tk2 w ≤ 20) ∧ (∀ x, x ∉ t → tk2 x = tk x) ∧ TS σ p tk2 u ∧ OpL L u ∧ Ac (goF (moM σ) (fun tk => rv p tk r) (t) tk a) u) := by
  intro t
  induction t with
  | nil =>
    intro i hi0 hi D hD tk ht a ha s hT hL0 hA
    obtain ⟨d, rfl⟩ : ∃ d, D = d + 1 := ⟨D - 1, by have : 771 ≤ D := hD; omega⟩
    have hD2 : 770 ≤ d := by have : 771 ≤ d + 1 := hD; omega
    refine am_enter rfl rfl (Nat.le_of_ble_eq_true rfl) ?_
    have hf := hT.2.1
    have hie : i = L.length := by have := List.drop_eq_nil_iff.mp hi; omega
    have h66 := hL0.1
    refine g_iload_n dX7_goes_0 rfl ?_
    refine g_aload_n dX7_goes_1 rfl ?_
    refine g_getI dX7_goes_2 tf_7_410 rfl rfl ?_
    refine g_icmp_ne (tgt := 14) dX7_goes_5 (by decide) (fun c5 => ?_) (fun c5 => ?_)
    · exfalso; omega
    · refine g_aload_n dX7_goes_8 rfl ?_
      refine g_iload_n dX7_goes_9 rfl ?_
      refine g_callvV dX7_goes_10 tm_7_413 rfl ⟨rfl, rfl⟩ rfl (Nat.le_of_ble_eq_true rfl) (cm_looks hD2 σ hb hR hV hp hr tk ht L a ha s hT hL0 hA) (fun s10 h10 => ?_)
      have hz := h10
      refine g_return dX7_goes_13 rfl ⟨rfl, ?_⟩
      exact ⟨tk, ht, fun _ _ => rfl, hz⟩
  | cons w t iht =>
    intro i hi0 hi D hD tk ht a ha s hT hL0 hA
    obtain ⟨d, rfl⟩ : ∃ d, D = d + 1 := ⟨D - 1, by have : 771 + (t.length + 1) ≤ D := hD; omega⟩
    have hD2 : 771 + t.length ≤ d := by have : 771 + (t.length + 1) ≤ d + 1 := hD; omega
    refine am_enter rfl rfl (Nat.le_of_ble_eq_true rfl) ?_
    obtain ⟨hiL, hiw, hit⟩ := drop_get hi
    have hw : w < 10 := hLw w (by
      have h : w ∈ L.drop i := by rw [hi]; simp
      exact List.mem_of_mem_drop h)
    have h4 : 0 ≤ hI σ 4 w ∧ hI σ 4 w ≤ 20 := hb 4 w
    have hok : ∀ tk, (∀ w, -1 ≤ tk w ∧ tk w ≤ 20) → vok (rv p tk r) := fun tk h => (hV p tk hp h).2.2 r
    have hmoL : ∀ x ∈ t, moM σ x ≤ 20 := fun x _ => by have h : 0 ≤ hI σ 4 x ∧ hI σ 4 x ≤ 20 := hb 4 x; unfold moM; omega
    have loop : ∀ (M v : Nat), v + M = moM σ w + 1 → ∀ (s : am_HS) (tk2 : Nat → Int), (∀ w, -1 ≤ tk2 w ∧ tk2 w ≤ 20) → (∀ x, x ∉ w :: t → tk2 x = tk x) → TS σ p tk2 s → OpL L s → accO ((List.range v).foldl (fun (a : Acc) (v : Nat) => goF (moM σ) (fun tk => rv p tk r) t (putT tk w (v : Int)) a) a) → Ac ((List.range v).foldl (fun (a : Acc) (v : Nat) => goF (moM σ) (fun tk => rv p tk r) t (putT tk w (v : Int)) a) a) s → am_Go lm d 7 4 0 cX7_goes 16 [some (vR (some 0)), some (vI (r : Int)), some (vI (i : Int)), some (vI (v : Int))] [] s (qV fun u => ∃ tk2 : Nat → Int, (∀ w, -1 ≤ tk2 w ∧ tk2 w ≤ 20) ∧ (∀ x, x ∉ w :: t → tk2 x = tk x) ∧ TS σ p tk2 u ∧ OpL L u ∧ Ac (goF (moM σ) (fun tk => rv p tk r) (w :: t) tk a) u) := by
      intro M
      induction M with
      | zero =>
        intro v hv s tk2 ht2 hag hT hL0 hO hA
        have hv2 : v = moM σ w + 1 := by omega
        subst hv2
        have hf := hT.2.1
        have hmo : hI s 4 w = hI σ 4 w := hT.1.a (by decide) (by decide)
        have hoi : hI s 40 i = (w : Int) := by rw [hL0.2 i hiL, hiw]
        have hm2 : moM σ w = (hI σ 4 w).toNat := rfl
        refine g_iload_n dX7_goes_16 rfl ?_
        refine g_aload_n dX7_goes_17 rfl ?_
        refine g_getA dX7_goes_18 tf_7_19 rfl rfl (mrf hf rfl) ?_
        refine g_aload_n dX7_goes_21 rfl ?_
        refine g_getA dX7_goes_22 tf_7_129 rfl rfl (mrf hf rfl) ?_
        refine g_iload_n dX7_goes_25 rfl ?_
        refine g_ialdN (i) dX7_goes_26 rfl (by omega) (by omega) ?_
        rw [hoi]
        refine g_ialdN (w) dX7_goes_27 rfl (by omega) (by omega) ?_
        rw [hmo]
        refine g_icmp_gt (tgt := 57) dX7_goes_28 (by decide) (fun c28 => ?_) (fun c28 => ?_)
        · refine g_return dX7_goes_57 rfl ⟨rfl, ?_⟩
          exact ⟨tk2, ht2, hag, hT, hL0, hA⟩
        · exfalso; omega
      | succ M ih =>
        intro v hv s tk2 ht2 hag hT hL0 hO hA
        have hf := hT.2.1
        have hmo : hI s 4 w = hI σ 4 w := hT.1.a (by decide) (by decide)
        have hoi : hI s 40 i = (w : Int) := by rw [hL0.2 i hiL, hiw]
        have hm2 : moM σ w = (hI σ 4 w).toNat := rfl
        have htp : ∀ x, -1 ≤ putT tk2 w (v : Int) x ∧ putT tk2 w (v : Int) x ≤ 20 := fun x => by
          unfold putT
          split
          · omega
          · exact ht2 x
        have hT2 : TS σ p (putT tk2 w (v : Int)) (uI s 32 w (v : Int)) := hT.put ⟨by omega, by omega⟩
        refine g_iload_n dX7_goes_16 rfl ?_
        refine g_aload_n dX7_goes_17 rfl ?_
        refine g_getA dX7_goes_18 tf_7_19 rfl rfl (mrf hf rfl) ?_
        refine g_aload_n dX7_goes_21 rfl ?_
        refine g_getA dX7_goes_22 tf_7_129 rfl rfl (mrf hf rfl) ?_
        refine g_iload_n dX7_goes_25 rfl ?_
        refine g_ialdN (i) dX7_goes_26 rfl (by omega) (by omega) ?_
        rw [hoi]
        refine g_ialdN (w) dX7_goes_27 rfl (by omega) (by omega) ?_
        rw [hmo]
        refine g_icmp_gt (tgt := 57) dX7_goes_28 (by decide) (fun c28 => ?_) (fun c28 => ?_)
        · exfalso; omega
        · refine g_aload_n dX7_goes_31 rfl ?_
          refine g_getA dX7_goes_32 tf_7_105 rfl rfl (mrf hf rfl) ?_
          refine g_aload_n dX7_goes_35 rfl ?_
          refine g_getA dX7_goes_36 tf_7_129 rfl rfl (mrf hf rfl) ?_
          refine g_iload_n dX7_goes_39 rfl ?_
          refine g_ialdN (i) dX7_goes_40 rfl (by omega) (by omega) ?_
          rw [hoi]
          refine g_iload_n dX7_goes_41 rfl ?_
          refine g_iastN (w) dX7_goes_42 rfl (by omega) (by omega) ?_
          refine g_aload_n dX7_goes_43 rfl ?_
          refine g_iload_n dX7_goes_44 rfl ?_
          refine g_iload_n dX7_goes_45 rfl ?_
          refine g_iconst dX7_goes_46 ⟨by decide, by decide⟩ ?_
          refine g_iadd dX7_goes_47 rfl ⟨by omega, by omega⟩ ?_
          refine g_callvV dX7_goes_48 tm_7_416 rfl ⟨rfl, rfl⟩ rfl (Nat.le_of_ble_eq_true rfl) (iht (i + 1) (by omega) hit d hD2 _ htp _ hO _ hT2 (hL0.uI (by omega)) (hA.uI (by omega))) (fun s48 h48 => ?_)
          obtain ⟨tk4, ht4, hag4, hT4, hL4, hA4⟩ := h48
          refine g_iinc dX7_goes_51 (by decide) rfl ⟨by omega, by omega⟩ rfl rfl ?_
          refine g_goto (tgt := 16) dX7_goes_54 (by decide) ?_
          have hag5 : ∀ x, x ∉ w :: t → tk4 x = tk x := fun x hx => by
            have h1 : x ∉ t := fun h => hx (List.mem_cons_of_mem _ h)
            have h2 : x ≠ w := fun h => hx (by rw [h]; simp)
            rw [hag4 x h1]
            unfold putT
            rw [if_neg h2]
            exact hag x hx
          have hcg : ∀ b, goF (moM σ) (fun tk => rv p tk r) t (putT tk2 w (v : Int)) b = goF (moM σ) (fun tk => rv p tk r) t (putT tk w (v : Int)) b := fun b => goF_congr (fun x hx => by
            unfold putT
            by_cases e : x = w
            · rw [if_pos e, if_pos e]
            · rw [if_neg e, if_neg e]
              exact hag x (fun h => by rcases List.mem_cons.mp h with h | h; exact e h; exact hx h))
          rw [hcg] at hA4
          refine ih (v + 1) (by omega) s48 tk4 ht4 hag5 hT4 hL4 ?_ ?_
          · rw [range_succ_foldl, ← hcg]
            exact goF_ok hmoL hok htp hO
          · rw [range_succ_foldl]
            exact hA4
    refine g_iload_n dX7_goes_0 rfl ?_
    refine g_aload_n dX7_goes_1 rfl ?_
    refine g_getI dX7_goes_2 tf_7_410 rfl rfl ?_
    rw [hL0.1]
    refine g_icmp_ne (tgt := 14) dX7_goes_5 (by decide) (fun c5 => ?_) (fun c5 => ?_)
    · refine g_iconst dX7_goes_14 ⟨by decide, by decide⟩ ?_
      refine g_istore_n dX7_goes_15 (by decide) rfl ?_
      exact loop (moM σ w + 1) 0 (by omega) s tk ht (fun _ _ => rfl) hT hL0 ha hA
    · exfalso; omega
