section
/-! BOTH: rules -/
theorem SR.frk {c : Nat} {X Y s s' : am_HS} (h : SR c X Y) {oth B : Nat} (hN : ∀ N : Nat, hI X 0 42 = (N : Int) → N + oth = 1) (hB : ∀ b, Y.2.2 = cH b → b + B = 1) (f : FrK oth X s) (g : FrC B Y s') : SR c s s' := by
  obtain ⟨h1, ⟨h2, h3, h4, h5⟩, h6, b, N, n, nm, ev, ed, ls, W, P, h7⟩ := h
  have hNo := hN N h7.1
  have hbB := hB b h7.2.2.1
  obtain ⟨f1, f2, f3⟩ := f
  obtain ⟨g1, g2, g3⟩ := g
  have ea : ∀ o j, 1 ≤ o → o ≤ 16 → hI s o j = hI X o j := fun o j q1 q2 => f3 o j (Or.inl ⟨q1, by omega⟩) (fun q => by unfold bkc at q; omega)
  have e0 : ∀ j, j ≤ 7 ∨ j = 23 ∨ j = 42 → hI s 0 j = hI X 0 j := fun j q1 => f3 0 j (Or.inr ⟨rfl, q1⟩) (fun q => by unfold bkc at q; omega)
  refine ⟨fun o j o' j' hc => ?_, ⟨f1, f2, ?_, fun k hk => (h5 k hk).of (ea _ _ (by omega) (by omega)) (fun _ _ => ea _ _ (by omega) (by omega)) (fun _ _ => ea _ _ (by omega) (by omega)) (ea _ _ (by omega) (by omega)) (e0 _ (by omega))⟩, ?_, b, N, n, nm, ev, ed, ls, W, P, ?_⟩
  · rw [f3 o j hc.keep (fun q => by unfold bkc at q; unfold SCp at hc; omega), g3 o' j' (fun q => by unfold chC at q; unfold SCp at hc; omega)]
    exact h1 o j o' j' hc
  · unfold SGb
    rw [e0 1 (by omega), e0 2 (by omega), e0 3 (by omega), e0 4 (by omega), e0 5 (by omega), e0 6 (by omega), e0 7 (by omega), e0 23 (by omega)]
    exact ⟨fun k hk => by rw [ea 1 k (by omega) (by omega)]; exact h4.1 k hk, fun k => by rw [ea 10 k (by omega) (by omega)]; exact h4.2.1 k, h4.2.2⟩
  · unfold SX
    rw [e0 1 (by omega)]
    obtain ⟨x1, x2, x3, x4, x5⟩ := h6
    have gc : ∀ o j, o = 9 ∨ o = 1 ∨ 47 ≤ o → hI s' o j = hI Y o j := fun o j q => g3 o j (fun z => by unfold chC at z; omega)
    refine ⟨fun k hk => by rw [gc _ _ (by omega)]; exact x1 k hk, fun j => by rw [gc _ _ (by omega), ea 16 j (by omega) (by omega)]; exact x2 j, fun p hp => by rw [gc _ _ (by omega), ea 2 p (by omega) (by omega)]; exact x3 p hp, fun p hp hp2 => by rw [ea 2 p (by omega) (by omega)]; exact x4 p hp hp2, fun k hk => by rw [gc _ _ (by omega), ea 3 _ (by omega) (by omega), ea 10 _ (by omega) (by omega), ea 12 _ (by omega) (by omega)]; exact x5 k hk⟩
  · obtain ⟨y1, y2, y3, y4, y5, y6, y7, y8, y9, y10, y11, y12⟩ := h7
    refine ⟨(e0 42 (by omega)).trans y1, y2.of (fun o k hk => f3 o k (bkc_keep hk) (fun q => by unfold bkc at hk q; omega)), g1.trans y3, y4, y5.of (fun o k hk => g3 o k (fun q => by unfold cbc at hk; unfold chC at q; omega)), y6, (e0 1 (by omega)).trans y7, (e0 2 (by omega)).trans y8, g2, y10, ?_, fun w hw => by rw [ea 7 w (by omega) (by omega)]; exact y12 w hw⟩
    rw [show (fun w => hI s 7 w) = fun w => hI X 7 w from funext fun w => ea 7 w (by omega) (by omega)]
    exact y11
theorem SR.cut {c : Nat} {τ σ : am_HS} (h : SR c τ σ) : SR c (uI τ 0 23 0) (uI σ 4 1 0) := h.w SCp.c2 rfl ⟨by decide, by decide⟩ ⟨by decide, by decide⟩ (h.2.1.2.2.1.ui ⟨by decide, by decide⟩ (by omega) (by omega)) (fun k hk => (h.2.1.2.2.2 k hk).ul (by omega)) (by omega) (by omega) (by omega) (by omega)
theorem SR.tf {c : Nat} (hc : c ≤ 10000) {τ σ : am_HS} (h : SR c τ σ) : SR (c + 1) (tfM τ) (tfC σ) := by
  have e : hI σ 0 13 = hI τ 0 7 := (h.1 0 7 0 13 (SCp.c1 (by omega))).symm
  have g := h.2.1.2.2.1.2.2.2.2.2.1
  have hr : rI (hI τ 0 7 + 1) := ⟨by omega, by omega⟩
  unfold tfM tfC
  rw [e]
  have s1 := h.up.cut
  exact s1.w (SCp.c1 (by omega)) rfl hr ⟨hr.1, hr.2⟩ (s1.2.1.2.2.1.ui hr (by omega) (by omega)) (fun k hk => (s1.2.1.2.2.2 k hk).ul (by omega)) (by omega) (by omega) (by omega) (by omega)
theorem SR.rfm {c : Nat} (hc : c ≤ 10000) {τ σ : am_HS} (h : SR c τ σ) {k : Nat} (hk : k < 8) : SR (c + 1) (rfM τ k) (rfC σ k) := by
  have q := h.cut.rf hc hk
  rw [hI_uI_n (a := 1) (by omega), hI_uI_n (a := 8) (by omega)] at q
  exact q
theorem min_uni {A : Nat → Prop} {n r r' : Nat} (h : r < n ∧ A r ∧ ∀ q, q < r → ¬ A q) (h' : r' < n ∧ A r' ∧ ∀ q, q < r' → ¬ A q) : r = r' := by
  have x1 : ¬ r < r' := fun y => h'.2.2 r y h.2.1
  have x2 : ¬ r' < r := fun y => h.2.2 r' y h'.2.1
  omega
theorem sm_rules {c : Nat} (hc : c ≤ 10000) {τ σ : am_HS} (h : SR c τ σ) (nn strict : Int) (hst : strict = 0 ∨ strict = 1) : SimD c τ σ mX7_rules mX6_rules [vI nn, vI strict] := by
  obtain ⟨b, N, n0, nm0, ev0, ed0, ls0, W, P, h7⟩ := h.2.2.2
  have hg := h.gm hc
  have g1 := hg.1
  have g2 := hg.2.1
  have hW : hI τ 0 2 = (W : Int) := h7.2.2.2.2.2.2.2.1
  have hP : hI τ 0 1 = (P : Int) := h7.2.2.2.2.2.2.1
  have hS := h7.2.2.2.2.2.1
  have W10 : W ≤ 10 := by omega
  have P6 : P ≤ 6 := by omega
  have hN2 := h7.2.1.1
  have hb2 := h7.2.2.2.1
  obtain ⟨oth, hNo⟩ : ∃ oth, N + oth = 1 := ⟨1 - N, by omega⟩
  obtain ⟨B, hbB⟩ : ∃ B, b + B = 1 := ⟨1 - b, by omega⟩
  have e13 : hI σ 0 13 = hI τ 0 7 := (h.1 0 7 0 13 (SCp.c1 (by omega))).symm
  have g7 := h.2.1.2.2.1.2.2.2.2.2.1
  have gr := h.2.1.2.2.1.1
  have gl := h.2.1.2.2.1.2.2.2.2.2.2.2.1
  have el := h.1.ln
  have htx := h.2.2.1.2.1
  refine ⟨_, _, cm_rules (by decide) (σ := τ) (strict := strict) hst hNo h.2.1.1 h.2.1.2.1 (fun k hk => ⟨(h.2.1.2.1 1 k).1, by have := gr k hk; omega⟩) (by omega) h7.1 h7.2.1 hS hP P6 hW W10 gl nn, cc6_rules (by decide) σ (h.cg hc h7) (mk := mkP τ) (h.mko W10 P6) hbB hst (by omega) (by omega) (tx := fun j => hI τ 16 j) (fun j => (htx j).1) (fun j => (htx j).2) nn, ?_⟩
  intro z s z' s' y y'
  rw [el] at y'
  have hN' : ∀ M : Nat, hI τ 0 42 = (M : Int) → M + oth = 1 := fun M hM => by have := h7.1; omega
  have hB' : ∀ b', σ.2.2 = cH b' → b' + B = 1 := fun b' hb' => by
    have e : cH b = cH b' := h7.2.2.1.symm.trans hb'
    have e2 := congrFun (congrFun e 0) 5
    have e3 : (some (6 + b) : Option Nat) = some (6 + b') := e2
    have e4 := Option.some.inj e3
    omega
  rcases y with ⟨a, rfl, rfl⟩ | ⟨a, a2, rfl, rfl⟩ | ⟨a, a2, y⟩ <;> rcases y' with ⟨a', rfl, rfl⟩ | ⟨a', a2', rfl, rfl⟩ | ⟨a', a2', y'⟩
  · exact ⟨rfl, h.rf hc (by decide)⟩
  · omega
  · exact absurd a (Int.not_lt.mpr a')
  · omega
  · exact ⟨rfl, h.rf hc (by decide)⟩
  · exact absurd a2 (Int.not_lt.mpr a2')
  · exact absurd a' (Int.not_lt.mpr a)
  · exact absurd a2' (Int.not_lt.mpr a2)
  have nt : ∀ M : Nat, hI (tfM τ) 0 42 = (M : Int) → M + oth = 1 := fun M hM => hN' M (by
    unfold tfM at hM
    rw [hI_uI_n (by omega), hI_uI_n (by omega)] at hM
    exact hM)
  have nr : ∀ k, ∀ M : Nat, hI (rfM τ k) 0 42 = (M : Int) → M + oth = 1 := fun k M hM => hN' M (by
    unfold rfM at hM
    rw [hI_uI_n (by omega), hI_uI_n (by omega)] at hM
    exact hM)
  revert y y'
  unfold rdA
  obtain ⟨R, hR⟩ : ∃ R, pRA (tkT (fun j => hI τ 16 j) nn.toNat) 13 [] 0 = R := ⟨_, rfl⟩
  rw [hR]
  rcases R with g | acc
  · rintro ⟨rfl, f⟩ ⟨rfl, f'⟩
    exact ⟨rfl, (h.tf hc).frk nt hB' f f'⟩
  · rintro ⟨l1, l2, y⟩ ⟨_, _, y'⟩
    have ew : ∀ w, w < W → hI σ (37 + w) 4 = hI τ 7 w := fun w hw => h.1.nd (by omega)
    have erg : rgA τ nn.toNat W acc ↔ rgAC_ σ (TkA τ nn.toNat) W acc := exists_congr fun k => and_congr Iff.rfl (rch_congr (fun k b => (h.edw _ _ W10 k b).symm) 22 k k)
    have end_ : (∃ w, w < W ∧ (acc.length : Int) ≤ hI τ 7 w) ↔ ∃ w, w < W ∧ (acc.length : Int) ≤ hI σ (37 + w) 4 := exists_congr fun w => ⟨fun q => ⟨q.1, by rw [ew w q.1]; exact q.2⟩, fun q => ⟨q.1, by rw [← ew w q.1]; exact q.2⟩⟩
    rcases y with ⟨r, r1, r2, r3, rfl, f⟩ | ⟨k1, y⟩ <;> rcases y' with ⟨r', r1', r2', r3', rfl, f'⟩ | ⟨k1', y'⟩
    · have e := min_uni (A := hoA (TkA τ nn.toNat) acc W) ⟨r1, r2, r3⟩ ⟨r1', r2', r3'⟩
      exact ⟨by rw [e], (h.tf hc).frk nt hB' f f'⟩
    · exact absurd r2 (k1' r r1)
    · exact absurd r2' (k1 r' r1')
    rcases y with ⟨r, r1, r2, r3, rfl, f⟩ | ⟨k2, y⟩ <;> rcases y' with ⟨r', r1', r2', r3', rfl, f'⟩ | ⟨k2', y'⟩
    · have e := min_uni (A := twA acc) ⟨r1, r2, r3⟩ ⟨r1', r2', r3'⟩
      exact ⟨by rw [e], (h.tf hc).frk nt hB' f f'⟩
    · exact absurd r2 (k2' r r1)
    · exact absurd r2' (k2 r' r1')
    rcases y with ⟨a3, rfl, f⟩ | ⟨a3, y⟩ <;> rcases y' with ⟨b3, rfl, f'⟩ | ⟨b3, y'⟩
    · exact ⟨rfl, (h.rfm hc (by decide)).frk (nr 5) hB' f f'⟩
    · exact absurd (erg.mp a3) b3
    · exact absurd (erg.mpr b3) a3
    rcases y with ⟨a4, rfl, f⟩ | ⟨a4, y⟩ <;> rcases y' with ⟨b4, rfl, f'⟩ | ⟨b4, y'⟩
    · exact ⟨rfl, (h.rfm hc (by decide)).frk (nr 3) hB' f f'⟩
    · exact absurd (end_.mp a4) b4
    · exact absurd (end_.mpr b4) a4
    rcases y with ⟨a5, a6, rfl, f⟩ | ⟨a5, rfl, f, hM, hS2⟩ <;> rcases y' with ⟨b5, b6, rfl, f'⟩ | ⟨b5, rfl, g1', f', hC, _⟩
    · exact ⟨rfl, (h.rfm hc (by decide)).frk (nr 7) hB' f f'⟩
    · exact absurd ⟨a5, a6⟩ b5
    · exact absurd ⟨b5, b6⟩ a5
    · refine ⟨rfl, ?_⟩
      clear a5 b5 b4 b3 k2 k2' nt nr erg end_
      obtain ⟨h1, ⟨h2, h3, h4, h5⟩, h6, _⟩ := h.up.cut
      obtain ⟨f1, f2, f3⟩ := f
      obtain ⟨gk, g3⟩ := f'
      have ro : rI (oth : Int) := ⟨by omega, by omega⟩
      have ea : ∀ o j, 1 ≤ o → o ≤ 16 → hI s o j = hI (uI τ 0 23 0) o j := fun o j q1 q2 => (f3 o j (Or.inl ⟨q1, by omega⟩) (fun q => by unfold bkc at q; omega)).trans (hI_uI_n (by omega))
      have e0 : ∀ j, j ≤ 7 ∨ j = 23 → hI s 0 j = hI (uI τ 0 23 0) 0 j := fun j q1 => (f3 0 j (Or.inr ⟨rfl, by omega⟩) (fun q => by unfold bkc at q; omega)).trans (hI_uI_n (by omega))
      have e42 : hI s 0 42 = (oth : Int) := (f3 0 42 (Or.inr ⟨rfl, by omega⟩) (fun q => by unfold bkc at q; omega)).trans (hI_uI_e ro)
      have e7 : ∀ w, hI s 7 w = hI τ 7 w := fun w => (ea 7 w (by omega) (by omega)).trans (hI_uI_n (by omega))
      refine ⟨fun o j o' j' hc => ?_, ⟨f1, f2, ?_, fun k hk => (h5 k hk).of (ea _ _ (by omega) (by omega)) (fun _ _ => ea _ _ (by omega) (by omega)) (fun _ _ => ea _ _ (by omega) (by omega)) (ea _ _ (by omega) (by omega)) (e0 _ (by omega))⟩, ?_, B, oth, acc.length, _, _, _, _, W, P, e42, hM, g1', by omega, hC, hS2, (e0 1 (by omega)).trans ((hI_uI_n (by omega)).trans hP), (e0 2 (by omega)).trans ((hI_uI_n (by omega)).trans hW), gk, fun r a hr he => edW_lt he l2 (k1 r hr), ?_, fun w hw => ?_⟩
      · have hk := hc.keep
        rw [g3 o' j' (fun q => by unfold chC at q; unfold SCp at hc; omega), ← h1 o j o' j' hc]
        refine (f3 o j hk (fun q => by unfold bkc at q; unfold SCp at hc; omega)).trans (hI_uI_n (fun q => by unfold SCp at hc; omega))
      · unfold SGb
        rw [e0 1 (by omega), e0 2 (by omega), e0 3 (by omega), e0 4 (by omega), e0 5 (by omega), e0 6 (by omega), e0 7 (by omega), e0 23 (by omega)]
        exact ⟨fun k hk => by rw [ea 1 k (by omega) (by omega)]; exact h4.1 k hk, fun k => by rw [ea 10 k (by omega) (by omega)]; exact h4.2.1 k, h4.2.2⟩
      · unfold SX
        rw [e0 1 (by omega)]
        obtain ⟨x1, x2, x3, x4, x5⟩ := h6
        have gc : ∀ o j, o = 9 ∨ o = 1 ∨ 47 ≤ o → hI s' o j = hI (uI σ 4 1 0) o j := fun o j q => g3 o j (fun z => by unfold chC at z; omega)
        refine ⟨fun k hk => by rw [gc _ _ (by omega)]; exact x1 k hk, fun j => by rw [gc _ _ (by omega), ea 16 j (by omega) (by omega)]; exact x2 j, fun p hp => by rw [gc _ _ (by omega), ea 2 p (by omega) (by omega)]; exact x3 p hp, fun p hp hp2 => by rw [ea 2 p (by omega) (by omega)]; exact x4 p hp hp2, fun k hk => by rw [gc _ _ (by omega), ea 3 _ (by omega) (by omega), ea 10 _ (by omega) (by omega), ea 12 _ (by omega) (by omega)]; exact x5 k hk⟩
      · rw [show (fun w => hI s 7 w) = fun w => hI τ 7 w from funext e7]
        exact a3
      · rw [e7 w]
        have y12 := h7.2.2.2.2.2.2.2.2.2.2.2 w hw
        refine ⟨?_, y12.2⟩
        by_cases z : w < W
        · exact Int.lt_of_not_ge (fun q => a4 ⟨w, z, q⟩)
        · have := y12.2 (by omega)
          omega
end
