/-! THE REFERENCE: a node, its parts, a rule -/
def VSt (N n : Nat) (lo hi ρ : Nat → Nat) (ev : Nat → Den) (td : TD) (p : Nat) (mk rvl : Nat → Vl) (k : Nat) : Prop := ∀ r, r < n → ρ r < k → ∀ (D : Nat) (σ : am_HS), 64 * k ≤ D → RC N n lo hi ρ ev td σ → RS0 p mk σ → Mem n rvl σ → am_Do lm D mX7_values σ [vR (some 0), vI (r : Int)] (qV fun s => EvF σ s (rgk n lo hi ρ (ρ r + 1)) (fun j => j < n ∧ ρ j < ρ r + 1) ∧ RS0 p mk s ∧ Mem n rvl s ∧ vt (rvl r) (hI s 0 48) (hL s 0 49) (hL s 0 50))
def NSt (N n : Nat) (lo hi ρ : Nat → Nat) (ev : Nat → Den) (td : TD) (p : Nat) (mk rvl : Nat → Vl) (k r0 f : Nat) : Prop := ∀ (x hx : Nat) (e : Den), lo r0 ≤ x → hx ≤ hi r0 → Nd td (fun r' => r' < n ∧ ρ r' < k) f x hx e → ∀ (D : Nat) (σ : am_HS), 2 * f + 64 * k + 6 ≤ D → RC N n lo hi ρ ev td σ → RS0 p mk σ → Mem n rvl σ → am_Do lm D mX7_valueOf σ [vR (some 0), vI (x : Int)] (qV fun s => EvF σ s (fun y => (x ≤ y ∧ y < hx) ∨ rgk n lo hi ρ k y) (fun j => j < n ∧ ρ j < k) ∧ RS0 p mk s ∧ Mem n rvl s ∧ vt (e (envf mk rvl)) (hI s 0 48) (hL s 0 49) (hL s 0 50) ∧ vt (e (envf mk rvl)) (hI s 36 x) (hL s 37 x) (hL s 38 x))
theorem vt_X {v : Vl} {z U W : Int} (h : vt v z U W) : isX v = true ↔ z = 2 := by
  rcases v with _ | _ | v
  · have h : z = 0 := h
    subst h
    simp [isX]
  · have h : z = 2 := h
    subst h
    simp [isX]
  · have h : z = 1 := h.1
    subst h
    simp [isX]
theorem vt_O {v : Vl} {z U W : Int} (h : vt v z U W) : isO v = true ↔ z = 0 := by
  rcases v with _ | _ | v
  · have h : z = 0 := h
    subst h
    simp [isO]
  · have h : z = 2 := h
    subst h
    simp [isO]
  · have h : z = 1 := h.1
    subst h
    simp [isO]
theorem any_snoc {α : Type} (l : List α) (a : α) (p : α → Bool) : (l ++ [a]).any p = (l.any p || p a) := by simp
theorem cnt_snoc {α : Type} (l : List α) (a : α) (p : α → Bool) : (((l ++ [a]).filter p).length : Int) = ((l.filter p).length : Int) + (if p a = true then 1 else 0) := by
  rw [List.filter_append, List.length_append]
  by_cases h : p a = true
  · simp [h]
  · simp [h]
theorem flt_all {α : Type} (l : List α) (p : α → Bool) : (l.filter p).length = l.length ↔ l.all p = true := by
  rw [List.all_eq_true]
  exact List.length_filter_eq_length_iff
theorem flt_any {α : Type} (l : List α) (p : α → Bool) : 0 < (l.filter p).length ↔ l.any p = true := by
  rw [List.any_eq_true]
  constructor
  · intro h
    obtain ⟨a, ha⟩ := List.exists_mem_of_length_pos h
    exact ⟨a, (List.mem_filter.mp ha).1, (List.mem_filter.mp ha).2⟩
  · rintro ⟨a, h1, h2⟩
    exact List.length_pos_of_mem (List.mem_filter.mpr ⟨h1, h2⟩)
theorem sumF_nO (neg : Bool) : ∀ (l : List CE) (acc : Vl), acc ≠ vO → sumF neg acc l ≠ vO
  | [], _, h => h
  | c :: t, acc, h => sumF_nO neg t (sumS1 neg acc c) (by
    unfold sumS1
    split
    · exact addV_nO h
    · exact h)
def b2i (b : Bool) : Int := match b with
  | true => 1
  | false => 0
theorem b2i_t {a b : Bool} (h : ¬ b2i a = 0) : (1 : Int) = b2i (a || b) := by cases a <;> simp_all [b2i]
theorem b2i_r {a b : Bool} (h : b = true) : (1 : Int) = b2i (a || b) := by cases a <;> simp_all [b2i]
theorem b2i_f {a b : Bool} (h : b2i a = 0) (h2 : ¬ b = true) : (0 : Int) = b2i (a || b) := by cases a <;> cases b <;> simp_all [b2i]
theorem nums_cnt (l : List Vl) (h : l.any isX = false) : (nums l).length + (l.filter isO).length = l.length := by
  induction l with
  | nil => rfl
  | cons v t ih =>
    simp only [List.any_cons, Bool.or_eq_false_iff] at h
    have := ih h.2
    rcases v with _ | _ | v
    · rw [show nums (none :: t) = nums t from rfl, List.filter_cons_of_pos rfl, List.length_cons, List.length_cons]; omega
    · simp [isX] at h
    · rw [show nums (some (some v) :: t) = v :: nums t from rfl, List.filter_cons_of_neg (by simp [isO]), List.length_cons, List.length_cons]; omega
set_option maxHeartbeats 4000000 in
theorem cm_partsOf (N n : Nat) (lo hi ρ : Nat → Nat) (ev : Nat → Den) (td : TD) (p : Nat) (mk rvl : Nat → Vl) (hV : RV n ev mk rvl) (k r0 f : Nat) (hr0 : r0 < n) (hk0 : ρ r0 = k) (hN : NSt N n lo hi ρ ev td p mk rvl k r0 f) (x hx : Nat) (hx0 : lo r0 ≤ x) (hx1 : hx ≤ hi r0) (hx2 : hx ≤ 3200) (hx3 : x < hx) (hop : 2 ≤ td.1 x ∧ td.1 x ≤ 10) (hnum : 0 ≤ td.2.1 x ∧ td.2.1 x ≤ 9999) (cs : List (Nat × Den)) (hc0 : cs ≠ []) (hc1 : 4 ≤ td.1 x → cs.length ≤ 10) (hc2 : 9 ≤ td.1 x → cs.length = 1) (hc3 : td.1 x = 3 → ∀ q ∈ cs, td.2.2.2.2 q.1 ≠ 0 → td.1 q.1 = 0 → 1 ≤ td.2.1 q.1) (hch : NdC (Nd td (fun r' => r' < n ∧ ρ r' < k) f) td.2.2.2.1 (td.2.2.1 x) (x + 1) hx cs) (D : Nat) (σ : am_HS) (hD : 2 * f + 64 * k + 7 ≤ D) (hR : RC N n lo hi ρ ev td σ) (hS : RS0 p mk σ) (hMm : Mem n rvl σ) (F : Vl) (hF0 : comb (td.1 x) (td.2.1 x) (cs.map (fun q => (q.2 (envf mk rvl), td.2.2.2.2 q.1, td.1 q.1))) = F) : am_Do lm D mX7_partsOf σ [vR (some 0), vI (x : Int)] (qV fun s => EvF σ s (fun y => (x < y ∧ y < hx) ∨ rgk n lo hi ρ k y) (fun j => j < n ∧ ρ j < k) ∧ RS0 p mk s ∧ Mem n rvl s ∧ vt (F) (hI s 0 48) (hL s 0 49) (hL s 0 50)) := by
  obtain ⟨d, rfl⟩ : ∃ d, D = d + 1 := ⟨D - 1, by omega⟩
  refine am_enter rfl rfl (Nat.le_of_ble_eq_true rfl) ?_
  have henv : ∀ a, vok (envf mk rvl a) := fun a => by
    unfold envf
    split
    · exact hV.2.1 _
    · exact hV.2.2 _
  have hdis := hR.2.2.2.2.2
  have htd : tdM σ = td := hR.2.2.2.1
  have hlen : cs.length ≤ 3200 := by
    have key : ∀ (cs : List (Nat × Den)) (y : Int) (lo' hi' : Nat), NdC (Nd td (fun r' => r' < n ∧ ρ r' < k) f) td.2.2.2.1 y lo' hi' cs → cs.length + lo' ≤ hi' := by
      intro cs
      induction cs with
      | nil => intro y lo' hi' h; have := h.2; simp; omega
      | cons a t ih =>
        intro y lo' hi' h
        obtain ⟨_, _, mid, h3, _, h5⟩ := h
        have := ih _ _ _ h5
        simp
        omega
    have := key _ _ _ _ hch
    omega
  have fin : ∀ (s : am_HS) (iL oC : Int) (o5 : Option am_V), EvF σ s (fun y => (x < y ∧ y < hx) ∨ rgk n lo hi ρ k y) (fun j => j < n ∧ ρ j < k) → RS0 p mk s → Mem n rvl s → (∀ q ∈ cs, vt (q.2 (envf mk rvl)) (hI s 36 q.1) (hL s 37 q.1) (hL s 38 q.1)) → ((iL = 1 ∧ cs.any (fun q => isX (q.2 (envf mk rvl))) = true) ∨ (iL = 0 ∧ cs.any (fun q => isX (q.2 (envf mk rvl))) = false)) → oC = ((cs.filter (fun q => isO (q.2 (envf mk rvl)))).length : Int) → am_Go lm d 7 6 0 cX7_partsOf 74 [some (vR (some 0)), some (vI (x : Int)), some (vI iL), some (vI oC), some (vI (cs.length : Int)), o5] [] s (qV fun s => EvF σ s (fun y => (x < y ∧ y < hx) ∨ rgk n lo hi ρ k y) (fun j => j < n ∧ ρ j < k) ∧ RS0 p mk s ∧ Mem n rvl s ∧ vt (F) (hI s 0 48) (hL s 0 49) (hL s 0 50)) := by
    intro s iL oC o5 hE hS hMm hdone hLo hOc
    have hf := hS.1
    have hRs : RC N n lo hi ρ ev td s := hR.of hE
    have htds : tdM s = td := hE.td.trans htd
    have e17 : ∀ j, hI s 17 j = td.1 j := fun j => by rw [← htds]; rfl
    have e18 : ∀ j, hI s 18 j = td.2.1 j := fun j => by rw [← htds]; rfl
    have e19 : ∀ j, hI s 19 j = td.2.2.1 j := fun j => by rw [← htds]; rfl
    have e20 : ∀ j, hI s 20 j = td.2.2.2.1 j := fun j => by rw [← htds]; rfl
    have e22 : ∀ j, hI s 22 j = td.2.2.2.2 j := fun j => by rw [← htds]; rfl
    have hLk0 : Lk s (hI s 19 x) (cs.map (fun q => (q.1, q.2 (envf mk rvl)))) := by rw [e19]; exact Lk_of henv e20 hch hdone
    have hce := map_ce (env := envf mk rvl) htds cs
    have hfl : (cs.filter (fun q => isO (q.2 (envf mk rvl)))).length ≤ cs.length := List.length_filter_le ..
    have hAny : (cs.map (fun q => (q.2 (envf mk rvl), td.2.2.2.2 q.1, td.1 q.1))).any (fun c => isX c.1) = cs.any (fun q => isX (q.2 (envf mk rvl))) := by rw [List.any_map]; rfl
    have hAll : (cs.map (fun q => (q.2 (envf mk rvl), td.2.2.2.2 q.1, td.1 q.1))).all (fun c => isO c.1) = cs.all (fun q => isO (q.2 (envf mk rvl))) := by rw [List.all_map]; rfl
    have hAnyO : (cs.map (fun q => (q.2 (envf mk rvl), td.2.2.2.2 q.1, td.1 q.1))).any (fun c => isO c.1) = cs.any (fun q => isO (q.2 (envf mk rvl))) := by rw [List.any_map]; rfl
    have hv1 : (cs.map (fun q => (q.2 (envf mk rvl), td.2.2.2.2 q.1, td.1 q.1))).map (fun c => c.1) = cs.map (fun q => q.2 (envf mk rvl)) := by rw [List.map_map]; rfl
    have hv2 : (cs.map (fun q => (q.1, q.2 (envf mk rvl)))).map (fun q => q.2) = cs.map (fun q => q.2 (envf mk rvl)) := by rw [List.map_map]; rfl
    have g1 := flt_all cs (fun q => isO (q.2 (envf mk rvl)))
    have g2 := flt_any cs (fun q => isO (q.2 (envf mk rvl)))
    have hF := hF0
    unfold comb at hF
    rw [hAny, hAll, hAnyO, hv1] at hF
    -- the ends
    have endX : iL = 1 → F = vX := fun h => by
      rcases hLo with h2 | h2
      · rw [if_pos h2.2] at hF; exact hF.symm
      · omega
    have nX : iL = 0 → ¬ (cs.any (fun q => isX (q.2 (envf mk rvl))) = true) := fun h => by
      rcases hLo with h2 | h2
      · omega
      · rw [h2.2]; decide
    have endO : iL = 0 → (oC = cs.length ∨ (td.1 x = 3 ∧ 0 < oC)) → F = vO := fun h h2 => by
      rw [if_neg (nX h), if_pos (by rcases h2 with h2 | h2; exact Or.inl (g1.mp (by omega)); exact Or.inr ⟨h2.1, g2.mp (by omega)⟩)] at hF
      exact hF.symm
    have rest : iL = 0 → ¬ (oC = cs.length ∨ (td.1 x = 3 ∧ 0 < oC)) → (if td.1 x = 2 then sumF true (vN 0 1) (cs.map (fun q => (q.2 (envf mk rvl), td.2.2.2.2 q.1, td.1 q.1))) else if td.1 x = 3 then prodF (vN 1 1) (cs.map (fun q => (q.2 (envf mk rvl), td.2.2.2.2 q.1, td.1 q.1))) else if td.1 x = 9 ∨ td.1 x = 10 then (match (cs.map (fun q => (q.2 (envf mk rvl), td.2.2.2.2 q.1, td.1 q.1))) with | [] => vO | c :: _ => capV (td.1 x) (td.2.1 x) c.1) else if td.1 x = 6 then divV (sumF false (vN 0 1) (cs.map (fun q => (q.2 (envf mk rvl), td.2.2.2.2 q.1, td.1 q.1)))) ((nums (cs.map (fun q => q.2 (envf mk rvl)))).length : Int) else pickV (td.1 x) (td.2.1 x) (nums (cs.map (fun q => q.2 (envf mk rvl))))) = F := fun h h2 => by
      rw [if_neg (nX h), if_neg (by rintro (h3 | h3); exact h2 (Or.inl (by have := g1.mpr h3; omega)); exact h2 (Or.inr ⟨h3.1, by have := g2.mpr h3.2; omega⟩))] at hF
      exact hF
    have hFok : vok F := by
      rw [← hF0]
      refine comb_ok hnum ?_ ?_
      · intro c hc
        obtain ⟨q, hq, rfl⟩ := List.mem_map.mp hc
        obtain ⟨mid, h7, _⟩ := NdC_mem hch q hq
        exact Nd_ok h7 _ henv
      · intro h3 c hc h7 h8
        obtain ⟨q, hq, rfl⟩ := List.mem_map.mp hc
        obtain ⟨mid, h9, _⟩ := NdC_mem hch q hq
        have h10 := Nd_num h9 h8
        exact ⟨td.2.1 q.1, by show q.2 _ = _; rw [h10], hc3 h3 q hq h7 h8⟩
    have out : ∀ s2, EvF s s2 (fun _ => False) (fun _ => False) → vt (F) (hI s2 0 48) (hL s2 0 49) (hL s2 0 50) → (True ∧ EvF σ s2 (fun y => (x < y ∧ y < hx) ∨ rgk n lo hi ρ k y) (fun j => j < n ∧ ρ j < k) ∧ RS0 p mk s2 ∧ Mem n rvl s2 ∧ vt (F) (hI s2 0 48) (hL s2 0 49) (hL s2 0 50)) := fun s2 h1 h2 => ⟨trivial, hE.trans h1 (fun _ h => h) (fun _ h => h) (fun _ h => h.elim) (fun _ h => h.elim), hS.of h1, hMm.out h1, h2⟩
    have outT : ∀ (y z U W : Int), vt F z U W → (True ∧ EvF σ (uT (uI s 0 48 y) z U W) (fun y => (x < y ∧ y < hx) ∨ rgk n lo hi ρ k y) (fun j => j < n ∧ ρ j < k) ∧ RS0 p mk (uT (uI s 0 48 y) z U W) ∧ Mem n rvl (uT (uI s 0 48 y) z U W) ∧ vt (F) (hI (uT (uI s 0 48 y) z U W) 0 48) (hL (uT (uI s 0 48 y) z U W) 0 49) (hL (uT (uI s 0 48 y) z U W) 0 50)) := fun y z U W h => out _ ((EvF_uI s y (fun _ => False) (fun _ => False)).trans (EvF_uT _ z U W (fun _ => False) (fun _ => False)) (fun _ h => h) (fun _ h => h) (fun _ h => h) (fun _ h => h)) (vt_uT h hFok)
    have outS : ∀ z : Int, (F = vX ∧ z = 2) ∨ (F = vO ∧ z = 0) → (True ∧ EvF σ (uI s 0 48 z) (fun y => (x < y ∧ y < hx) ∨ rgk n lo hi ρ k y) (fun j => j < n ∧ ρ j < k) ∧ RS0 p mk (uI s 0 48 z) ∧ Mem n rvl (uI s 0 48 z) ∧ vt (F) (hI (uI s 0 48 z) 0 48) (hL (uI s 0 48 z) 0 49) (hL (uI s 0 48 z) 0 50)) := fun z h => out _ (EvF_uI s z _ _) (by
      rw [hI_uI_e ⟨by omega, by omega⟩]
      rcases h with ⟨h1, h2⟩ | ⟨h1, h2⟩ <;> rw [h1, h2] <;> rfl)
    have hnn : iL = 0 → (nums (cs.map (fun q => q.2 (envf mk rvl)))).length + (cs.filter (fun q => isO (q.2 (envf mk rvl)))).length = cs.length := fun h => by
      have := nums_cnt (cs.map (fun q => q.2 (envf mk rvl))) (by rw [List.any_map]; rcases hLo with h2 | h2; omega; exact h2.2)
      rw [List.filter_map, List.length_map, List.length_map] at this
      exact this
    have hL1 : Lk (uI s 0 48 1) (hI (uI s 0 48 1) 19 x) (cs.map (fun q => (q.1, q.2 (envf mk rvl)))) := by
      rw [uT_out, hI_uT (by omega)]
      exact Lk_congr (fun q _ => ⟨hI_uT (by omega), hL_uT (by omega), hL_uT (by omega), hI_uT (by omega)⟩) hLk0
    have hce1 : (cs.map (fun q => (q.1, q.2 (envf mk rvl)))).map (ceM (uI s 0 48 1)) = cs.map (fun q => (q.2 (envf mk rvl), td.2.2.2.2 q.1, td.1 q.1)) := map_ce ((EvF_uI s 1 (fun _ => False) (fun _ => False)).td.trans htds) cs
    have e17' : ∀ j, hI (uI s 0 48 1) 17 j = td.1 j := fun j => by rw [hI_uI_n (by omega), e17]
    have e18' : ∀ j, hI (uI s 0 48 1) 18 j = td.2.1 j := fun j => by rw [hI_uI_n (by omega), e18]
    have hall : iL = 0 → ¬ (oC = cs.length) → (oC = 0 ∨ td.1 x ≠ 3) → ∀ h : td.1 x = 3, ∀ q ∈ cs, ∃ u w, q.2 (envf mk rvl) = vN u w := fun h h2 h3 h4 q hq => by
      rcases hv : q.2 (envf mk rvl) with _ | _ | v
      · exfalso
        have : 0 < (cs.filter (fun q => isO (q.2 (envf mk rvl)))).length := g2.mpr (List.any_eq_true.mpr ⟨q, hq, by rw [hv]; rfl⟩)
        omega
      · exfalso
        exact nX h (List.any_eq_true.mpr ⟨q, hq, by rw [hv]; rfl⟩)
      · exact ⟨v.1, v.2, rfl⟩
    have hA : iL = 1 → am_Go lm d 7 6 0 cX7_partsOf 111 [some (vR (some 0)), some (vI (x : Int)), some (vI iL), some (vI oC), some (vI (cs.length : Int)), o5] [] (uI s 0 48 2) (qV fun s => EvF σ s (fun y => (x < y ∧ y < hx) ∨ rgk n lo hi ρ k y) (fun j => j < n ∧ ρ j < k) ∧ RS0 p mk s ∧ Mem n rvl s ∧ vt (F) (hI s 0 48) (hL s 0 49) (hL s 0 50)) := by
      intro hi1
      refine g_aload_n dX7_partsOf_111 rfl ?_
      refine g_getI dX7_partsOf_112 tf_7_252 rfl rfl ?_
      rw [hI_uI_e ⟨by omega, by omega⟩]
      refine g_iconst dX7_partsOf_115 ⟨by decide, by decide⟩ ?_
      refine g_icmp_eq (tgt := 120) dX7_partsOf_116 (by decide) (fun c116 => ?_) (fun c116 => ?_)
      · exact absurd c116 (by decide)
      · refine g_return dX7_partsOf_119 rfl ⟨rfl, ?_⟩
        exact (outS 2 (Or.inl ⟨endX hi1, rfl⟩)).2
    have hB : iL = 0 → (oC = cs.length ∨ (td.1 x = 3 ∧ 0 < oC)) → am_Go lm d 7 6 0 cX7_partsOf 111 [some (vR (some 0)), some (vI (x : Int)), some (vI iL), some (vI oC), some (vI (cs.length : Int)), o5] [] (uI s 0 48 0) (qV fun s => EvF σ s (fun y => (x < y ∧ y < hx) ∨ rgk n lo hi ρ k y) (fun j => j < n ∧ ρ j < k) ∧ RS0 p mk s ∧ Mem n rvl s ∧ vt (F) (hI s 0 48) (hL s 0 49) (hL s 0 50)) := by
      intro hi1 hi2
      refine g_aload_n dX7_partsOf_111 rfl ?_
      refine g_getI dX7_partsOf_112 tf_7_252 rfl rfl ?_
      rw [hI_uI_e ⟨by omega, by omega⟩]
      refine g_iconst dX7_partsOf_115 ⟨by decide, by decide⟩ ?_
      refine g_icmp_eq (tgt := 120) dX7_partsOf_116 (by decide) (fun c116 => ?_) (fun c116 => ?_)
      · exact absurd c116 (by decide)
      · refine g_return dX7_partsOf_119 rfl ⟨rfl, ?_⟩
        exact (outS 0 (Or.inr ⟨endO hi1 hi2, rfl⟩)).2
    have hC : iL = 0 → ¬ (oC = cs.length ∨ (td.1 x = 3 ∧ 0 < oC)) → am_Go lm d 7 6 0 cX7_partsOf 111 [some (vR (some 0)), some (vI (x : Int)), some (vI iL), some (vI oC), some (vI (cs.length : Int)), o5] [] (uI s 0 48 1) (qV fun s => EvF σ s (fun y => (x < y ∧ y < hx) ∨ rgk n lo hi ρ k y) (fun j => j < n ∧ ρ j < k) ∧ RS0 p mk s ∧ Mem n rvl s ∧ vt (F) (hI s 0 48) (hL s 0 49) (hL s 0 50)) := by
      intro hi1 hi2
      refine g_aload_n dX7_partsOf_111 rfl ?_
      refine g_getI dX7_partsOf_112 tf_7_252 rfl rfl ?_
      rw [hI_uI_e ⟨by omega, by omega⟩]
      refine g_iconst dX7_partsOf_115 ⟨by decide, by decide⟩ ?_
      refine g_icmp_eq (tgt := 120) dX7_partsOf_116 (by decide) (fun c116 => ?_) (fun c116 => ?_)
      · have hz1 : hI (uI s 0 48 1) 0 48 = 1 := hI_uI_e ⟨by omega, by omega⟩
        refine g_aload_n dX7_partsOf_120 rfl ?_
        refine g_getA dX7_partsOf_121 tf_7_59 rfl rfl (mrf hf rfl) ?_
        refine g_iload_n dX7_partsOf_124 rfl ?_
        refine g_ialdN (x) dX7_partsOf_125 rfl (by omega) (by omega) ?_
        rw [e17']
        refine g_table dX7_partsOf_126 (fun h => absurd h (by omega)) (fun h1 h2 => ?_)
        have hres := rest (by omega) (by omega)
        rcases (show td.1 x = 2 ∨ td.1 x = 3 ∨ td.1 x = 6 ∨ td.1 x = 9 ∨ td.1 x = 10 ∨ td.1 x = 4 ∨ td.1 x = 5 ∨ td.1 x = 7 ∨ td.1 x = 8 by omega) with ho | ho | ho | ho | ho | ho | ho | ho | ho
        · refine ⟨50, 176, by rw [ho]; rfl, by decide, ?_⟩
          rw [if_pos ho] at hres
          refine g_aload_n dX7_partsOf_176 rfl ?_
          refine g_iload_n dX7_partsOf_177 rfl ?_
          refine g_callvV dX7_partsOf_178 tm_7_345 rfl ⟨rfl, rfl⟩ rfl (Nat.le_of_ble_eq_true rfl) (cm_sums (by omega) (uI s 0 48 1) hf x (by omega) _ hL1) (fun s178 h178 => ?_)
          obtain ⟨tz, tU, tW, rfl, hvt⟩ := h178
          refine g_return dX7_partsOf_181 rfl ⟨rfl, ?_⟩
          rw [hce1, e17', show decide (td.1 x = 2) = true from decide_eq_true ho, hres] at hvt
          exact (outT 1 tz tU tW hvt).2
        · refine ⟨56, 182, by rw [ho]; rfl, by decide, ?_⟩
          rw [if_neg (by omega), if_pos ho] at hres
          refine g_aload_n dX7_partsOf_182 rfl ?_
          refine g_iload_n dX7_partsOf_183 rfl ?_
          refine g_callvV dX7_partsOf_184 tm_7_348 rfl ⟨rfl, rfl⟩ rfl (Nat.le_of_ble_eq_true rfl) (cm_multiplies (by omega) (uI s 0 48 1) hf x (by omega) _ hL1 (fun q hq => by
      obtain ⟨a, ha, rfl⟩ := List.mem_map.mp hq
      exact hall (by omega) (by omega) (by omega) ho a ha) (fun q hq h7 h8 => by
      obtain ⟨a, ha, rfl⟩ := List.mem_map.mp hq
      rw [hI_uI_n (by omega), e22] at h7
      rw [e17'] at h8
      obtain ⟨mid, h9, _⟩ := NdC_mem hch a ha
      exact ⟨td.2.1 a.1, by show a.2 _ = _; rw [Nd_num h9 h8], hc3 ho a ha h7 h8⟩) F (by rw [hce1]; exact hres)) (fun s184 h184 => ?_)
          obtain ⟨tz, tU, tW, rfl, hvt⟩ := h184
          refine g_return dX7_partsOf_187 rfl ⟨rfl, ?_⟩
          exact (outT 1 tz tU tW hvt).2
        · refine ⟨68, 194, by rw [ho]; rfl, by decide, ?_⟩
          rw [if_neg (by omega), if_neg (by omega), if_neg (by omega), if_pos ho] at hres
          refine g_aload_n dX7_partsOf_194 rfl ?_
          refine g_iload_n dX7_partsOf_195 rfl ?_
          refine g_callvV dX7_partsOf_196 tm_7_345 rfl ⟨rfl, rfl⟩ rfl (Nat.le_of_ble_eq_true rfl) (cm_sums (by omega) (uI s 0 48 1) hf x (by omega) _ hL1) (fun s196 h196 => ?_)
          obtain ⟨tz0, tU0, tW0, rfl, hvt0⟩ := h196
          rw [hce1, e17', show decide (td.1 x = 2) = false from decide_eq_false (by omega)] at hvt0
          have hz0 := vt_z hvt0
          generalize hsf : sumF false (vN 0 1) (cs.map (fun q => (q.2 (envf mk rvl), td.2.2.2.2 q.1, td.1 q.1))) = SF at hvt0 hres
          have hSFok : vok SF := by
            rw [← hsf]
            refine sumF_ok _ _ _ vok01 ?_
            intro c hc
            obtain ⟨q, hq, rfl⟩ := List.mem_map.mp hc
            obtain ⟨mid, h7, _⟩ := NdC_mem hch q hq
            exact Nd_ok h7 _ henv
          refine g_aload_n dX7_partsOf_199 rfl ?_
          refine g_getI dX7_partsOf_200 tf_7_252 rfl rfl ?_
          rw [hI_uT_s ⟨by omega, by omega⟩]
          refine g_iconst dX7_partsOf_203 ⟨by decide, by decide⟩ ?_
          refine g_icmp_ne (tgt := 225) dX7_partsOf_204 (by decide) (fun c204 => ?_) (fun c204 => ?_)
          · have hmX : EvF σ (uT (uI s 0 48 1) tz0 tU0 tW0) (fun y => (x < y ∧ y < hx) ∨ rgk n lo hi ρ k y) (fun j => j < n ∧ ρ j < k) ∧ RS0 p mk (uT (uI s 0 48 1) tz0 tU0 tW0) ∧ Mem n rvl (uT (uI s 0 48 1) tz0 tU0 tW0) ∧ vt (F) (hI (uT (uI s 0 48 1) tz0 tU0 tW0) 0 48) (hL (uT (uI s 0 48 1) tz0 tU0 tW0) 0 49) (hL (uT (uI s 0 48 1) tz0 tU0 tW0) 0 50) := by
              have hSO : SF ≠ vO := by rw [← hsf]; exact sumF_nO _ _ _ (by simp)
              have hSX : SF = vX := (vt_n1 hvt0 c204).resolve_left hSO
              have hFX : F = vX := by rw [← hres, hSX]; rfl
              rw [hSX, ← hFX] at hvt0
              exact (outT 1 tz0 tU0 tW0 hvt0).2
            refine g_return dX7_partsOf_225 rfl ⟨rfl, ?_⟩
            first | exact hmX | exact hmN tz tU tW hvt
          · have e9 := vt_1 hvt0 (by omega)
            rw [e9] at hSFok hres
            obtain ⟨r1, r2⟩ := vokN hSFok
            have r3 := mul_p (N := 1000000000) r2 (y := (cs.length : Int) - oC) ⟨by omega, by omega⟩
            refine g_aload_n dX7_partsOf_207 rfl ?_
            refine g_aload_n dX7_partsOf_208 rfl ?_
            refine g_getL dX7_partsOf_209 tf_7_255 rfl rfl ?_
            rw [hL_uT_u ⟨by omega, by omega⟩]
            refine g_aload_n dX7_partsOf_212 rfl ?_
            refine g_getL dX7_partsOf_213 tf_7_259 rfl rfl ?_
            rw [hL_uT_w ⟨by omega, by omega⟩]
            refine g_iload dX7_partsOf_216 rfl ?_
            refine g_iload_n dX7_partsOf_218 rfl ?_
            refine g_isub dX7_partsOf_219 rfl ⟨by omega, by omega⟩ ?_
            refine g_i2l dX7_partsOf_220 ?_
            refine g_lmul dX7_partsOf_221 rfl ⟨by omega, by omega⟩ ?_
            refine g_callvV dX7_partsOf_222 tm_7_320 rfl ⟨rfl, rfl⟩ rfl (Nat.le_of_ble_eq_true rfl) (cm_tells (by omega) _ _ _ ⟨by omega, by omega⟩ ⟨by omega, by omega⟩) (fun s222 h222 => ?_)
            obtain ⟨tz, tU, tW, rfl, hvt⟩ := h222
            have hmN : ∀ z U W, vt (nrm tU0 (tW0 * ((cs.length : Int) - oC))) z U W → _ := fun z U W h => (by
              rw [show nrm tU0 (tW0 * ((cs.length : Int) - oC)) = F from by rw [← hres]; unfold divV; rw [show (((nums (cs.map (fun q => q.2 (envf mk rvl)))).length : Nat) : Int) = (cs.length : Int) - oC by have := hnn (by omega); omega]] at h
              exact (out (uT (uT (uI s 0 48 1) tz0 tU0 tW0) z U W) (by rw [uT_uT]; exact ((EvF_uI s 1 (fun _ => False) (fun _ => False)).trans (EvF_uT _ z U W (fun _ => False) (fun _ => False)) (fun _ h => h) (fun _ h => h) (fun _ h => h) (fun _ h => h))) (vt_uT h hFok)).2)
            refine g_return dX7_partsOf_225 rfl ⟨rfl, ?_⟩
            first | exact hmX | exact hmN tz tU tW hvt
        · refine ⟨62, 188, by rw [ho]; rfl, by decide, ?_⟩
          rw [if_neg (by omega), if_neg (by omega), if_pos (by omega)] at hres
          obtain ⟨c, hcs⟩ : ∃ c, cs = [c] := List.length_eq_one_iff.mp (hc2 (by omega))
          have hcm : c ∈ cs := by rw [hcs]; simp
          rw [hcs] at hL1 hres
          simp only [List.map_cons, List.map_nil, Lk] at hL1 hres
          obtain ⟨hy1, hy2, hy3, hy4, hy5⟩ := hL1
          obtain ⟨cu, cw, hcv⟩ : ∃ u w, c.2 (envf mk rvl) = vN u w := by
            rcases hv : c.2 (envf mk rvl) with _ | _ | v
            · exfalso
              apply hi2
              left
              rw [hOc, hcs]
              simp [hv, isO]
            · exfalso
              exact nX (by omega) (List.any_eq_true.mpr ⟨c, hcm, by rw [hv]; rfl⟩)
            · exact ⟨v.1, v.2, rfl⟩
          rw [hcv] at hy3 hy4 hres
          refine g_aload_n dX7_partsOf_188 rfl ?_
          refine g_iload_n dX7_partsOf_189 rfl ?_
          refine g_callvV dX7_partsOf_190 tm_7_351 rfl ⟨rfl, rfl⟩ rfl (Nat.le_of_ble_eq_true rfl) (cm_caps (by omega) (uI s 0 48 1) hf x c.1 (by omega) hy2 hy1 cu cw hy3 hy4 (by rw [e18']; exact hnum)) (fun s190 h190 => ?_)
          obtain ⟨tz, tU, tW, rfl, hvt⟩ := h190
          refine g_return dX7_partsOf_193 rfl ⟨rfl, ?_⟩
          rw [e17', e18', hres] at hvt
          exact (outT 1 tz tU tW hvt).2
        · refine ⟨62, 188, by rw [ho]; rfl, by decide, ?_⟩
          rw [if_neg (by omega), if_neg (by omega), if_pos (by omega)] at hres
          obtain ⟨c, hcs⟩ : ∃ c, cs = [c] := List.length_eq_one_iff.mp (hc2 (by omega))
          have hcm : c ∈ cs := by rw [hcs]; simp
          rw [hcs] at hL1 hres
          simp only [List.map_cons, List.map_nil, Lk] at hL1 hres
          obtain ⟨hy1, hy2, hy3, hy4, hy5⟩ := hL1
          obtain ⟨cu, cw, hcv⟩ : ∃ u w, c.2 (envf mk rvl) = vN u w := by
            rcases hv : c.2 (envf mk rvl) with _ | _ | v
            · exfalso
              apply hi2
              left
              rw [hOc, hcs]
              simp [hv, isO]
            · exfalso
              exact nX (by omega) (List.any_eq_true.mpr ⟨c, hcm, by rw [hv]; rfl⟩)
            · exact ⟨v.1, v.2, rfl⟩
          rw [hcv] at hy3 hy4 hres
          refine g_aload_n dX7_partsOf_188 rfl ?_
          refine g_iload_n dX7_partsOf_189 rfl ?_
          refine g_callvV dX7_partsOf_190 tm_7_351 rfl ⟨rfl, rfl⟩ rfl (Nat.le_of_ble_eq_true rfl) (cm_caps (by omega) (uI s 0 48 1) hf x c.1 (by omega) hy2 hy1 cu cw hy3 hy4 (by rw [e18']; exact hnum)) (fun s190 h190 => ?_)
          obtain ⟨tz, tU, tW, rfl, hvt⟩ := h190
          refine g_return dX7_partsOf_193 rfl ⟨rfl, ?_⟩
          rw [e17', e18', hres] at hvt
          exact (outT 1 tz tU tW hvt).2
        · refine ⟨100, 226, by rw [ho]; rfl, by decide, ?_⟩
          rw [if_neg (by omega), if_neg (by omega), if_neg (by omega), if_neg (by omega)] at hres
          refine g_aload_n dX7_partsOf_226 rfl ?_
          refine g_iload_n dX7_partsOf_227 rfl ?_
          refine g_iload dX7_partsOf_228 rfl ?_
          refine g_iload_n dX7_partsOf_230 rfl ?_
          refine g_isub dX7_partsOf_231 rfl ⟨by omega, by omega⟩ ?_
          refine g_callvV dX7_partsOf_232 tm_7_354 rfl ⟨rfl, rfl⟩ rfl (Nat.le_of_ble_eq_true rfl) (cm_picks (by omega) (uI s 0 48 1) hf x (by omega) _ hL1 (by rw [List.length_map]; exact hc1 (by omega)) _ (by
      have h1 := congrArg List.length (nums_map (cs.map (fun q => (q.1, q.2 (envf mk rvl)))))
      rw [List.length_map, hv2] at h1
      have := hnn (by omega)
      omega) (by omega) (by rw [e17']; omega) (by rw [e18']; exact hnum)) (fun s232 h232 => ?_)
          obtain ⟨tg, tz, tU, tW, rfl, hvt⟩ := h232
          refine g_return dX7_partsOf_235 rfl ⟨rfl, ?_⟩
          rw [e17', e18', hv2, hres] at hvt
          exact (out _ ((EvF_uI s 1 (fun _ => False) (fun _ => False)).trans (EvF_uTp _ tg tz tU tW (fun _ => False) (fun _ => False)) (fun _ h => h) (fun _ h => h) (fun _ h => h) (fun _ h => h)) (vt_uT hvt hFok)).2
        · refine ⟨100, 226, by rw [ho]; rfl, by decide, ?_⟩
          rw [if_neg (by omega), if_neg (by omega), if_neg (by omega), if_neg (by omega)] at hres
          refine g_aload_n dX7_partsOf_226 rfl ?_
          refine g_iload_n dX7_partsOf_227 rfl ?_
          refine g_iload dX7_partsOf_228 rfl ?_
          refine g_iload_n dX7_partsOf_230 rfl ?_
          refine g_isub dX7_partsOf_231 rfl ⟨by omega, by omega⟩ ?_
          refine g_callvV dX7_partsOf_232 tm_7_354 rfl ⟨rfl, rfl⟩ rfl (Nat.le_of_ble_eq_true rfl) (cm_picks (by omega) (uI s 0 48 1) hf x (by omega) _ hL1 (by rw [List.length_map]; exact hc1 (by omega)) _ (by
      have h1 := congrArg List.length (nums_map (cs.map (fun q => (q.1, q.2 (envf mk rvl)))))
      rw [List.length_map, hv2] at h1
      have := hnn (by omega)
      omega) (by omega) (by rw [e17']; omega) (by rw [e18']; exact hnum)) (fun s232 h232 => ?_)
          obtain ⟨tg, tz, tU, tW, rfl, hvt⟩ := h232
          refine g_return dX7_partsOf_235 rfl ⟨rfl, ?_⟩
          rw [e17', e18', hv2, hres] at hvt
          exact (out _ ((EvF_uI s 1 (fun _ => False) (fun _ => False)).trans (EvF_uTp _ tg tz tU tW (fun _ => False) (fun _ => False)) (fun _ h => h) (fun _ h => h) (fun _ h => h) (fun _ h => h)) (vt_uT hvt hFok)).2
        · refine ⟨100, 226, by rw [ho]; rfl, by decide, ?_⟩
          rw [if_neg (by omega), if_neg (by omega), if_neg (by omega), if_neg (by omega)] at hres
          refine g_aload_n dX7_partsOf_226 rfl ?_
          refine g_iload_n dX7_partsOf_227 rfl ?_
          refine g_iload dX7_partsOf_228 rfl ?_
          refine g_iload_n dX7_partsOf_230 rfl ?_
          refine g_isub dX7_partsOf_231 rfl ⟨by omega, by omega⟩ ?_
          refine g_callvV dX7_partsOf_232 tm_7_354 rfl ⟨rfl, rfl⟩ rfl (Nat.le_of_ble_eq_true rfl) (cm_picks (by omega) (uI s 0 48 1) hf x (by omega) _ hL1 (by rw [List.length_map]; exact hc1 (by omega)) _ (by
      have h1 := congrArg List.length (nums_map (cs.map (fun q => (q.1, q.2 (envf mk rvl)))))
      rw [List.length_map, hv2] at h1
      have := hnn (by omega)
      omega) (by omega) (by rw [e17']; omega) (by rw [e18']; exact hnum)) (fun s232 h232 => ?_)
          obtain ⟨tg, tz, tU, tW, rfl, hvt⟩ := h232
          refine g_return dX7_partsOf_235 rfl ⟨rfl, ?_⟩
          rw [e17', e18', hv2, hres] at hvt
          exact (out _ ((EvF_uI s 1 (fun _ => False) (fun _ => False)).trans (EvF_uTp _ tg tz tU tW (fun _ => False) (fun _ => False)) (fun _ h => h) (fun _ h => h) (fun _ h => h) (fun _ h => h)) (vt_uT hvt hFok)).2
        · refine ⟨100, 226, by rw [ho]; rfl, by decide, ?_⟩
          rw [if_neg (by omega), if_neg (by omega), if_neg (by omega), if_neg (by omega)] at hres
          refine g_aload_n dX7_partsOf_226 rfl ?_
          refine g_iload_n dX7_partsOf_227 rfl ?_
          refine g_iload dX7_partsOf_228 rfl ?_
          refine g_iload_n dX7_partsOf_230 rfl ?_
          refine g_isub dX7_partsOf_231 rfl ⟨by omega, by omega⟩ ?_
          refine g_callvV dX7_partsOf_232 tm_7_354 rfl ⟨rfl, rfl⟩ rfl (Nat.le_of_ble_eq_true rfl) (cm_picks (by omega) (uI s 0 48 1) hf x (by omega) _ hL1 (by rw [List.length_map]; exact hc1 (by omega)) _ (by
      have h1 := congrArg List.length (nums_map (cs.map (fun q => (q.1, q.2 (envf mk rvl)))))
      rw [List.length_map, hv2] at h1
      have := hnn (by omega)
      omega) (by omega) (by rw [e17']; omega) (by rw [e18']; exact hnum)) (fun s232 h232 => ?_)
          obtain ⟨tg, tz, tU, tW, rfl, hvt⟩ := h232
          refine g_return dX7_partsOf_235 rfl ⟨rfl, ?_⟩
          rw [e17', e18', hv2, hres] at hvt
          exact (out _ ((EvF_uI s 1 (fun _ => False) (fun _ => False)).trans (EvF_uTp _ tg tz tU tW (fun _ => False) (fun _ => False)) (fun _ h => h) (fun _ h => h) (fun _ h => h) (fun _ h => h)) (vt_uT hvt hFok)).2
      · exact absurd rfl c116
    refine g_aload_n dX7_partsOf_74 rfl ?_
    refine g_iload_n dX7_partsOf_75 rfl ?_
    refine g_if_eq (tgt := 83) dX7_partsOf_76 (by decide) (fun c76 => ?_) (fun c76 => ?_)
    · refine g_iload_n dX7_partsOf_83 rfl ?_
      refine g_iload dX7_partsOf_84 rfl ?_
      refine g_icmp_eq (tgt := 103) dX7_partsOf_86 (by decide) (fun c86 => ?_) (fun c86 => ?_)
      · refine g_iconst dX7_partsOf_103 ⟨by decide, by decide⟩ ?_
        refine g_goto (tgt := 108) dX7_partsOf_104 (by decide) ?_
        refine g_putI dX7_partsOf_108 tf_7_252 rfl rfl rfl ?_
        exact hB (by omega) (by omega)
      · refine g_aload_n dX7_partsOf_89 rfl ?_
        refine g_getA dX7_partsOf_90 tf_7_59 rfl rfl (mrf hf rfl) ?_
        refine g_iload_n dX7_partsOf_93 rfl ?_
        refine g_ialdN (x) dX7_partsOf_94 rfl (by omega) (by omega) ?_
        rw [e17]
        refine g_iconst dX7_partsOf_95 ⟨by decide, by decide⟩ ?_
        refine g_icmp_ne (tgt := 107) dX7_partsOf_96 (by decide) (fun c96 => ?_) (fun c96 => ?_)
        · refine g_iconst dX7_partsOf_107 ⟨by decide, by decide⟩ ?_
          refine g_putI dX7_partsOf_108 tf_7_252 rfl rfl rfl ?_
          exact hC (by omega) (by omega)
        · refine g_iload_n dX7_partsOf_99 rfl ?_
          refine g_if_le (tgt := 107) dX7_partsOf_100 (by decide) (fun c100 => ?_) (fun c100 => ?_)
          · refine g_iconst dX7_partsOf_107 ⟨by decide, by decide⟩ ?_
            refine g_putI dX7_partsOf_108 tf_7_252 rfl rfl rfl ?_
            exact hC (by omega) (by omega)
          · refine g_iconst dX7_partsOf_103 ⟨by decide, by decide⟩ ?_
            refine g_goto (tgt := 108) dX7_partsOf_104 (by decide) ?_
            refine g_putI dX7_partsOf_108 tf_7_252 rfl rfl rfl ?_
            exact hB (by omega) (by omega)
    · refine g_iconst dX7_partsOf_79 ⟨by decide, by decide⟩ ?_
      refine g_goto (tgt := 108) dX7_partsOf_80 (by decide) ?_
      refine g_putI dX7_partsOf_108 tf_7_252 rfl rfl rfl ?_
      exact hA (by rcases hLo with h | h; exact h.1; exact absurd h.1 c76)
  have loop : ∀ (rem done : List (Nat × Den)) (y : Int) (lo' : Nat) (s : am_HS) (iL oC : Int), cs = done ++ rem → NdC (Nd td (fun r' => r' < n ∧ ρ r' < k) f) td.2.2.2.1 y lo' hx rem → x < lo' → EvF σ s (fun y => (x < y ∧ y < lo') ∨ rgk n lo hi ρ k y) (fun j => j < n ∧ ρ j < k) → RS0 p mk s → Mem n rvl s → (∀ q ∈ done, x < q.1 ∧ q.1 < lo' ∧ vt (q.2 (envf mk rvl)) (hI s 36 q.1) (hL s 37 q.1) (hL s 38 q.1)) → iL = b2i (done.any (fun q => isX (q.2 (envf mk rvl)))) → oC = ((done.filter (fun q => isO (q.2 (envf mk rvl)))).length : Int) → am_Go lm d 7 6 0 cX7_partsOf 15 [some (vR (some 0)), some (vI (x : Int)), some (vI iL), some (vI oC), some (vI (done.length : Int)), some (vI y)] [] s (qV fun s => EvF σ s (fun y => (x < y ∧ y < hx) ∨ rgk n lo hi ρ k y) (fun j => j < n ∧ ρ j < k) ∧ RS0 p mk s ∧ Mem n rvl s ∧ vt (F) (hI s 0 48) (hL s 0 49) (hL s 0 50)) := by
    intro rem
    induction rem with
    | nil =>
      intro done y lo' s iL oC hcs hch hlo hE hS hMm hdone hiL hoC
      obtain ⟨hy, hlh⟩ := hch
      rw [List.append_nil] at hcs
      subst hlh
      rw [← hcs] at hdone hiL hoC ⊢
      refine g_iload dX7_partsOf_15 rfl ?_
      refine g_if_lt (tgt := 74) dX7_partsOf_17 (by decide) (fun c17 => ?_) (fun c17 => ?_)
      · exact fin s iL oC _ hE hS hMm (fun q hq => (hdone q hq).2.2) (by rw [hiL]; cases cs.any (fun q => isX (q.2 (envf mk rvl))) <;> simp [b2i]) hoC
      · exfalso; omega
    | cons q rem ih =>
      intro done y lo' s iL oC hcs hch hlo hE hS hMm hdone hiL hoC
      obtain ⟨rfl, hq1, mid, hmid, hnd, hch⟩ := hch
      have hf := hS.1
      have hcl : done.length + (rem.length + 1) = cs.length := by rw [hcs]; simp
      have hmh : mid ≤ hx := by
        have key : ∀ (cs : List (Nat × Den)) (y : Int) (lo' hi' : Nat), NdC (Nd td (fun r' => r' < n ∧ ρ r' < k) f) td.2.2.2.1 y lo' hi' cs → lo' ≤ hi' := by
          intro cs
          induction cs with
          | nil => intro y lo' hi' h; exact Nat.le_of_eq h.2
          | cons a t ih =>
            intro y lo' hi' h
            obtain ⟨_, _, mid, h3, _, h5⟩ := h
            have := ih _ _ _ h5
            omega
        exact key _ _ _ _ hch
      have hfl : (done.filter (fun q => isO (q.2 (envf mk rvl)))).length ≤ done.length := List.length_filter_le ..
      refine g_iload dX7_partsOf_15 rfl ?_
      refine g_if_lt (tgt := 74) dX7_partsOf_17 (by decide) (fun c17 => ?_) (fun c17 => ?_)
      · exfalso; omega
      · refine g_aload_n dX7_partsOf_20 rfl ?_
        refine g_iload dX7_partsOf_21 rfl ?_
        refine g_callvV dX7_partsOf_23 tm_7_336 rfl ⟨rfl, rfl⟩ rfl (Nat.le_of_ble_eq_true rfl) (hN lo' mid q.2 (by omega) (by omega) hnd d s (by omega) (hR.of hE) hS hMm) (fun s23 h23 => ?_)
        obtain ⟨hE2, hS2, hM2, hv1, hv2⟩ := h23
        have hf := hS2.1
        have hX := vt_X hv1
        have hO := vt_O hv1
        have hE3 : EvF σ s23 (fun y => (x < y ∧ y < mid) ∨ rgk n lo hi ρ k y) (fun j => j < n ∧ ρ j < k) := hE.trans hE2 (fun j h => h.elim (fun h => Or.inl ⟨h.1, by omega⟩) Or.inr) (fun j h => h) (fun j h => h.elim (fun h => Or.inl ⟨by omega, h.2⟩) Or.inr) (fun j h => h)
        have hdone2 : ∀ a ∈ done ++ [q], x < a.1 ∧ a.1 < mid ∧ vt (a.2 (envf mk rvl)) (hI s23 36 a.1) (hL s23 37 a.1) (hL s23 38 a.1) := by
          intro a ha
          rcases List.mem_append.mp ha with ha | ha
          · obtain ⟨g1, g2, g3⟩ := hdone a ha
            have hnz : ¬ ((lo' ≤ a.1 ∧ a.1 < mid) ∨ rgk n lo hi ρ k a.1) := by
              rintro (h | h)
              · omega
              · exact rgk_not (ρ := ρ) (y := a.1) hr0 hdis ⟨by omega, by omega⟩ (by rw [hk0]; exact h)
            obtain ⟨w1, w2, w3⟩ := hE2.node hnz
            exact ⟨g1, by omega, by rw [w1, w2, w3]; exact g3⟩
          · simp at ha
            subst ha
            exact ⟨by omega, by omega, by rw [hq1]; exact hv2⟩
        have e20s : hI s23 20 lo' = td.2.2.2.1 lo' := by rw [← htd, ← hE3.td]; rfl
        generalize hsv : hI s23 0 48 = sv at hX hO hv1
        have hany := any_snoc done q (fun q => isX (q.2 (envf mk rvl)))
        have hcnt := cnt_snoc done q (fun q => isO (q.2 (envf mk rvl)))
        try dsimp only at hany hcnt
        refine g_iload_n dX7_partsOf_26 rfl ?_
        refine g_if_ne (tgt := 38) dX7_partsOf_27 (by decide) (fun c27 => ?_) (fun c27 => ?_)
        · refine g_iconst dX7_partsOf_38 ⟨by decide, by decide⟩ ?_
          refine g_goto (tgt := 43) dX7_partsOf_39 (by decide) ?_
          refine g_istore_n dX7_partsOf_43 (by decide) rfl ?_
          refine g_iload_n dX7_partsOf_44 rfl ?_
          refine g_aload_n dX7_partsOf_45 rfl ?_
          refine g_getI dX7_partsOf_46 tf_7_252 rfl rfl ?_
          rw [hsv]
          refine g_if_ne (tgt := 56) dX7_partsOf_49 (by decide) (fun c49 => ?_) (fun c49 => ?_)
          · refine g_iconst dX7_partsOf_56 ⟨by decide, by decide⟩ ?_
            refine g_iadd dX7_partsOf_57 rfl ⟨by omega, by omega⟩ ?_
            refine g_istore_n dX7_partsOf_58 (by decide) rfl ?_
            refine g_iinc dX7_partsOf_59 (by decide) rfl ⟨by omega, by omega⟩ (by simp : ((done.length : Nat) : Int) + 1 = ((done ++ [q]).length : Int)) rfl ?_
            refine g_aload_n dX7_partsOf_62 rfl ?_
            refine g_getA dX7_partsOf_63 tf_7_68 rfl rfl (mrf hf rfl) ?_
            refine g_iload dX7_partsOf_66 rfl ?_
            refine g_ialdN (lo') dX7_partsOf_68 rfl (by omega) (by omega) ?_
            rw [e20s]
            refine g_istore dX7_partsOf_69 (by decide) rfl ?_
            refine g_goto (tgt := 15) dX7_partsOf_71 (by decide) ?_
            refine ih (done ++ [q]) _ mid _ _ _ (by rw [hcs]; simp) hch (by omega) hE3 hS2 hM2 hdone2 ?_ ?_
            · rw [hany]
              first
                | exact b2i_t (by rw [← hiL]; assumption)
                | exact b2i_r (hX.mpr (by first | assumption | exact Decidable.of_not_not (by assumption)))
                | exact b2i_f (by rw [← hiL]; first | assumption | exact Decidable.of_not_not (by assumption)) (fun h => absurd (hX.mp h) (by assumption))
            · rw [hcnt, hoC]
              first
                | rw [if_pos (hO.mpr (by first | assumption | exact Decidable.of_not_not (by assumption)))]
                | rw [if_neg (fun h => absurd (hO.mp h) (by assumption))]
          · refine g_iconst dX7_partsOf_52 ⟨by decide, by decide⟩ ?_
            refine g_goto (tgt := 57) dX7_partsOf_53 (by decide) ?_
            refine g_iadd dX7_partsOf_57 rfl ⟨by omega, by omega⟩ ?_
            refine g_istore_n dX7_partsOf_58 (by decide) rfl ?_
            refine g_iinc dX7_partsOf_59 (by decide) rfl ⟨by omega, by omega⟩ (by simp : ((done.length : Nat) : Int) + 1 = ((done ++ [q]).length : Int)) rfl ?_
            refine g_aload_n dX7_partsOf_62 rfl ?_
            refine g_getA dX7_partsOf_63 tf_7_68 rfl rfl (mrf hf rfl) ?_
            refine g_iload dX7_partsOf_66 rfl ?_
            refine g_ialdN (lo') dX7_partsOf_68 rfl (by omega) (by omega) ?_
            rw [e20s]
            refine g_istore dX7_partsOf_69 (by decide) rfl ?_
            refine g_goto (tgt := 15) dX7_partsOf_71 (by decide) ?_
            refine ih (done ++ [q]) _ mid _ _ _ (by rw [hcs]; simp) hch (by omega) hE3 hS2 hM2 hdone2 ?_ ?_
            · rw [hany]
              first
                | exact b2i_t (by rw [← hiL]; assumption)
                | exact b2i_r (hX.mpr (by first | assumption | exact Decidable.of_not_not (by assumption)))
                | exact b2i_f (by rw [← hiL]; first | assumption | exact Decidable.of_not_not (by assumption)) (fun h => absurd (hX.mp h) (by assumption))
            · rw [hcnt, hoC]
              first
                | rw [if_pos (hO.mpr (by first | assumption | exact Decidable.of_not_not (by assumption)))]
                | rw [if_neg (fun h => absurd (hO.mp h) (by assumption))]
        · refine g_aload_n dX7_partsOf_30 rfl ?_
          refine g_getI dX7_partsOf_31 tf_7_252 rfl rfl ?_
          rw [hsv]
          refine g_iconst dX7_partsOf_34 ⟨by decide, by decide⟩ ?_
          refine g_icmp_ne (tgt := 42) dX7_partsOf_35 (by decide) (fun c35 => ?_) (fun c35 => ?_)
          · refine g_iconst dX7_partsOf_42 ⟨by decide, by decide⟩ ?_
            refine g_istore_n dX7_partsOf_43 (by decide) rfl ?_
            refine g_iload_n dX7_partsOf_44 rfl ?_
            refine g_aload_n dX7_partsOf_45 rfl ?_
            refine g_getI dX7_partsOf_46 tf_7_252 rfl rfl ?_
            rw [hsv]
            refine g_if_ne (tgt := 56) dX7_partsOf_49 (by decide) (fun c49 => ?_) (fun c49 => ?_)
            · refine g_iconst dX7_partsOf_56 ⟨by decide, by decide⟩ ?_
              refine g_iadd dX7_partsOf_57 rfl ⟨by omega, by omega⟩ ?_
              refine g_istore_n dX7_partsOf_58 (by decide) rfl ?_
              refine g_iinc dX7_partsOf_59 (by decide) rfl ⟨by omega, by omega⟩ (by simp : ((done.length : Nat) : Int) + 1 = ((done ++ [q]).length : Int)) rfl ?_
              refine g_aload_n dX7_partsOf_62 rfl ?_
              refine g_getA dX7_partsOf_63 tf_7_68 rfl rfl (mrf hf rfl) ?_
              refine g_iload dX7_partsOf_66 rfl ?_
              refine g_ialdN (lo') dX7_partsOf_68 rfl (by omega) (by omega) ?_
              rw [e20s]
              refine g_istore dX7_partsOf_69 (by decide) rfl ?_
              refine g_goto (tgt := 15) dX7_partsOf_71 (by decide) ?_
              refine ih (done ++ [q]) _ mid _ _ _ (by rw [hcs]; simp) hch (by omega) hE3 hS2 hM2 hdone2 ?_ ?_
              · rw [hany]
                first
                  | exact b2i_t (by rw [← hiL]; assumption)
                  | exact b2i_r (hX.mpr (by first | assumption | exact Decidable.of_not_not (by assumption)))
                  | exact b2i_f (by rw [← hiL]; first | assumption | exact Decidable.of_not_not (by assumption)) (fun h => absurd (hX.mp h) (by assumption))
              · rw [hcnt, hoC]
                first
                  | rw [if_pos (hO.mpr (by first | assumption | exact Decidable.of_not_not (by assumption)))]
                  | rw [if_neg (fun h => absurd (hO.mp h) (by assumption))]
            · refine g_iconst dX7_partsOf_52 ⟨by decide, by decide⟩ ?_
              refine g_goto (tgt := 57) dX7_partsOf_53 (by decide) ?_
              refine g_iadd dX7_partsOf_57 rfl ⟨by omega, by omega⟩ ?_
              refine g_istore_n dX7_partsOf_58 (by decide) rfl ?_
              refine g_iinc dX7_partsOf_59 (by decide) rfl ⟨by omega, by omega⟩ (by simp : ((done.length : Nat) : Int) + 1 = ((done ++ [q]).length : Int)) rfl ?_
              refine g_aload_n dX7_partsOf_62 rfl ?_
              refine g_getA dX7_partsOf_63 tf_7_68 rfl rfl (mrf hf rfl) ?_
              refine g_iload dX7_partsOf_66 rfl ?_
              refine g_ialdN (lo') dX7_partsOf_68 rfl (by omega) (by omega) ?_
              rw [e20s]
              refine g_istore dX7_partsOf_69 (by decide) rfl ?_
              refine g_goto (tgt := 15) dX7_partsOf_71 (by decide) ?_
              refine ih (done ++ [q]) _ mid _ _ _ (by rw [hcs]; simp) hch (by omega) hE3 hS2 hM2 hdone2 ?_ ?_
              · rw [hany]
                first
                  | exact b2i_t (by rw [← hiL]; assumption)
                  | exact b2i_r (hX.mpr (by first | assumption | exact Decidable.of_not_not (by assumption)))
                  | exact b2i_f (by rw [← hiL]; first | assumption | exact Decidable.of_not_not (by assumption)) (fun h => absurd (hX.mp h) (by assumption))
              · rw [hcnt, hoC]
                first
                  | rw [if_pos (hO.mpr (by first | assumption | exact Decidable.of_not_not (by assumption)))]
                  | rw [if_neg (fun h => absurd (hO.mp h) (by assumption))]
          · refine g_iconst dX7_partsOf_38 ⟨by decide, by decide⟩ ?_
            refine g_goto (tgt := 43) dX7_partsOf_39 (by decide) ?_
            refine g_istore_n dX7_partsOf_43 (by decide) rfl ?_
            refine g_iload_n dX7_partsOf_44 rfl ?_
            refine g_aload_n dX7_partsOf_45 rfl ?_
            refine g_getI dX7_partsOf_46 tf_7_252 rfl rfl ?_
            rw [hsv]
            refine g_if_ne (tgt := 56) dX7_partsOf_49 (by decide) (fun c49 => ?_) (fun c49 => ?_)
            · refine g_iconst dX7_partsOf_56 ⟨by decide, by decide⟩ ?_
              refine g_iadd dX7_partsOf_57 rfl ⟨by omega, by omega⟩ ?_
              refine g_istore_n dX7_partsOf_58 (by decide) rfl ?_
              refine g_iinc dX7_partsOf_59 (by decide) rfl ⟨by omega, by omega⟩ (by simp : ((done.length : Nat) : Int) + 1 = ((done ++ [q]).length : Int)) rfl ?_
              refine g_aload_n dX7_partsOf_62 rfl ?_
              refine g_getA dX7_partsOf_63 tf_7_68 rfl rfl (mrf hf rfl) ?_
              refine g_iload dX7_partsOf_66 rfl ?_
              refine g_ialdN (lo') dX7_partsOf_68 rfl (by omega) (by omega) ?_
              rw [e20s]
              refine g_istore dX7_partsOf_69 (by decide) rfl ?_
              refine g_goto (tgt := 15) dX7_partsOf_71 (by decide) ?_
              refine ih (done ++ [q]) _ mid _ _ _ (by rw [hcs]; simp) hch (by omega) hE3 hS2 hM2 hdone2 ?_ ?_
              · rw [hany]
                first
                  | exact b2i_t (by rw [← hiL]; assumption)
                  | exact b2i_r (hX.mpr (by first | assumption | exact Decidable.of_not_not (by assumption)))
                  | exact b2i_f (by rw [← hiL]; first | assumption | exact Decidable.of_not_not (by assumption)) (fun h => absurd (hX.mp h) (by assumption))
              · rw [hcnt, hoC]
                first
                  | rw [if_pos (hO.mpr (by first | assumption | exact Decidable.of_not_not (by assumption)))]
                  | rw [if_neg (fun h => absurd (hO.mp h) (by assumption))]
            · refine g_iconst dX7_partsOf_52 ⟨by decide, by decide⟩ ?_
              refine g_goto (tgt := 57) dX7_partsOf_53 (by decide) ?_
              refine g_iadd dX7_partsOf_57 rfl ⟨by omega, by omega⟩ ?_
              refine g_istore_n dX7_partsOf_58 (by decide) rfl ?_
              refine g_iinc dX7_partsOf_59 (by decide) rfl ⟨by omega, by omega⟩ (by simp : ((done.length : Nat) : Int) + 1 = ((done ++ [q]).length : Int)) rfl ?_
              refine g_aload_n dX7_partsOf_62 rfl ?_
              refine g_getA dX7_partsOf_63 tf_7_68 rfl rfl (mrf hf rfl) ?_
              refine g_iload dX7_partsOf_66 rfl ?_
              refine g_ialdN (lo') dX7_partsOf_68 rfl (by omega) (by omega) ?_
              rw [e20s]
              refine g_istore dX7_partsOf_69 (by decide) rfl ?_
              refine g_goto (tgt := 15) dX7_partsOf_71 (by decide) ?_
              refine ih (done ++ [q]) _ mid _ _ _ (by rw [hcs]; simp) hch (by omega) hE3 hS2 hM2 hdone2 ?_ ?_
              · rw [hany]
                first
                  | exact b2i_t (by rw [← hiL]; assumption)
                  | exact b2i_r (hX.mpr (by first | assumption | exact Decidable.of_not_not (by assumption)))
                  | exact b2i_f (by rw [← hiL]; first | assumption | exact Decidable.of_not_not (by assumption)) (fun h => absurd (hX.mp h) (by assumption))
              · rw [hcnt, hoC]
                first
                  | rw [if_pos (hO.mpr (by first | assumption | exact Decidable.of_not_not (by assumption)))]
                  | rw [if_neg (fun h => absurd (hO.mp h) (by assumption))]
  refine g_iconst dX7_partsOf_0 ⟨by decide, by decide⟩ ?_
  refine g_istore_n dX7_partsOf_1 (by decide) rfl ?_
  refine g_iconst dX7_partsOf_2 ⟨by decide, by decide⟩ ?_
  refine g_istore_n dX7_partsOf_3 (by decide) rfl ?_
  refine g_iconst dX7_partsOf_4 ⟨by decide, by decide⟩ ?_
  have hf := hS.1
  refine g_istore dX7_partsOf_5 (by decide) rfl ?_
  refine g_aload_n dX7_partsOf_7 rfl ?_
  refine g_getA dX7_partsOf_8 tf_7_65 rfl rfl (mrf hf rfl) ?_
  refine g_iload_n dX7_partsOf_11 rfl ?_
  refine g_ialdN (x) dX7_partsOf_12 rfl (by omega) (by omega) ?_
  refine g_istore dX7_partsOf_13 (by decide) rfl ?_
  have h19 : hI σ 19 x = td.2.2.1 x := by rw [← htd]; rfl
  rw [h19]
  exact loop cs [] _ (x + 1) σ 0 0 rfl hch (by omega) (EvF.rf σ _ _) hS hMm (fun q hq => by cases hq) rfl rfl

