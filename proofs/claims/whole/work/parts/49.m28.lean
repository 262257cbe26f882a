/-! THE REFERENCE: a node and its parts, while it is read -/
def LI (oth n : Nat) (tx : Nat → Int) (f c i : Nat) (op num : Int) (σ : am_HS) (cs : List (Nat × (NDn × Bool))) (i' : Nat) (s : am_HS) : Prop := PFx oth n tx s ∧ PFr oth c σ s ∧ i < i' ∧ ∃ c' : Nat, hI s 0 36 = (c' : Int) ∧ c < c' ∧ c' ≤ 2 * i' + 1 ∧ hI s 17 (1600 * oth + c) = op ∧ hI s 18 (1600 * oth + c) = num ∧ hI s 20 (1600 * oth + c) = -1 ∧ hI s 22 (1600 * oth + c) = 0 ∧ 0 ≤ hI s 19 (1600 * oth + c) ∧ hI s 21 (1600 * oth + c) = (lsK 0 cs : Int) ∧ cs ≠ [] ∧ NdP.NdK (tdM s) (NdP (tdM s) f) (hI s 19 (1600 * oth + c)) (1600 * oth + c + 1) (1600 * oth + c') cs ∧ (∀ q ∈ cs, NdP.FlK (tdM s) op q) ∧ NmP (tdM s) (tkT tx n) (1600 * oth + c) (1600 * oth + c') i i' ∧ (hI s 27 oth = 1 ↔ hI σ 27 oth = 1 ∨ ∃ l, i ≤ l ∧ l < i' ∧ tkT tx n l = (3, 45))
/-- how a part is turned -/
def FlB (op : Int) (fl : Bool) (b k v : Int) : Prop := if op = 2 then b = (if fl = true then 1 else 0) else if op = 3 then (if fl = true then b = 1 ∧ k = 0 ∧ 1 ≤ v else b = 0) else b = 0 ∧ fl = false
theorem FlB_f (op k v : Int) : FlB op false 0 k v := by
  unfold FlB
  split
  · rfl
  · split
    · rfl
    · exact ⟨rfl, rfl⟩
theorem LI_add {oth n : Nat} {tx : Nat → Int} {f c i : Nat} {op num : Int} {σ : am_HS} {cs : List (Nat × (NDn × Bool))} {i' : Nat} {s : am_HS} (h : LI oth n tx f c i op num σ cs i' s) {c1 c2 j : Nat} (hc1 : hI s 0 36 = (c1 : Int)) {s2 : am_HS} {e : NDn} {b : Int} {fl : Bool} (x2 : PFx oth n tx s2) (f2 : PFr oth c1 s s2) (hij : i' < j) (h36 : hI s2 0 36 = (c2 : Int)) (hc : c1 < c2) (hc2 : c2 ≤ 2 * j + 1) (hj : j ≤ 600) (hnd : NdP (tdM s2) f (1600 * oth + c1) (1600 * oth + c2) e) (h20 : hI s2 20 (1600 * oth + c1) = -1) (hnm : NmP (tdM s2) (tkT tx n) (1600 * oth + c1) (1600 * oth + c2) i' j) (hls : hI s2 27 oth = 1 ↔ hI s 27 oth = 1 ∨ ∃ l, i' ≤ l ∧ l < j ∧ tkT tx n l = (3, 45)) (hb : 0 ≤ b ∧ b ≤ 1) (hfl : FlB op fl b (hI s2 17 (1600 * oth + c1)) (hI s2 18 (1600 * oth + c1))) : LI oth n tx f c i op num σ (cs ++ [(1600 * oth + c1, (e, fl))]) j (uI (uI (uI s2 20 (lsK 0 cs) ((1600 * oth + c1 : Nat) : Int)) 21 (1600 * oth + c) ((1600 * oth + c1 : Nat) : Int)) 22 (1600 * oth + c1) b) ∧ (PFi tx n j s2 → PFi tx n j (uI (uI (uI s2 20 (lsK 0 cs) ((1600 * oth + c1 : Nat) : Int)) 21 (1600 * oth + c) ((1600 * oth + c1 : Nat) : Int)) 22 (1600 * oth + c1) b)) := by
  obtain ⟨x1, f1, h1, c', h2, h3, h4, h5, h6, h7, h8, h9, h10, h11, h12, h13, h14, h15⟩ := h
  have ec : c' = c1 := by omega
  subst ec
  obtain ⟨hL1, hL2⟩ := lsK_r (d := 0) h11 h12
  have ho2 : oth < 2 := x2.2.2.2.2.2.1
  have ry : rI (((1600 * oth + c' : Nat) : Int)) := ⟨by omega, by omega⟩
  have hold : ∀ o k, 17 ≤ o → o ≤ 22 → k < 1600 * oth + c' → hI s2 o k = hI s o k := fun o k o1 o2 k1 => f2.2 o k (by unfold scP; omega)
  generalize hs4 : uI (uI (uI s2 20 (lsK 0 cs) ((1600 * oth + c' : Nat) : Int)) 21 (1600 * oth + c) ((1600 * oth + c' : Nat) : Int)) 22 (1600 * oth + c') b = s4
  have e0 : ∀ o k, ¬ (o = 20 ∧ k = lsK 0 cs) → ¬ (o = 21 ∧ k = 1600 * oth + c) → ¬ (o = 22 ∧ k = 1600 * oth + c') → hI s4 o k = hI s2 o k := by
    intro o k q1 q2 q3
    rw [← hs4, hI_uI_n q3, hI_uI_n q2, hI_uI_n q1]
  have e20 : hI s4 20 (lsK 0 cs) = ((1600 * oth + c' : Nat) : Int) := by rw [← hs4, hI_uI_n (by omega), hI_uI_n (by omega), hI_uI_e ry]
  have e21 : hI s4 21 (1600 * oth + c) = ((1600 * oth + c' : Nat) : Int) := by rw [← hs4, hI_uI_n (by omega), hI_uI_e ry]
  have e22 : hI s4 22 (1600 * oth + c') = b := by rw [← hs4, hI_uI_e ⟨by omega, by omega⟩]
  have fs : PFr oth c s2 s4 := by
    rw [← hs4]
    exact (((PFr.rf oth c s2).u (by unfold scP; omega)).u (by unfold scP; omega)).u (by unfold scP; omega)
  have rs : rgM s4 := by
    rw [← hs4]
    exact ((x2.2.1.u (rg_free (by omega) ry)).u (rg_free (by omega) ry)).u hb
  have fo : PFr oth c σ s4 := (f1.tr f2 (by omega)).tr fs (Nat.le_refl _)
  refine ⟨⟨x2.of fs rs, fo, by omega, c2, ?_, by omega, hc2, ?_, ?_, ?_, ?_, ?_, ?_, by simp, ?_, ?_, ?_, ?_⟩, fun hp => hp.of (fun k hk => e0 0 k (by omega) (by omega) (by omega))⟩
  · rw [e0 0 36 (by omega) (by omega) (by omega)]; exact h36
  · rw [e0 17 _ (by omega) (by omega) (by omega), hold 17 _ (by omega) (by omega) (by omega)]; exact h5
  · rw [e0 18 _ (by omega) (by omega) (by omega), hold 18 _ (by omega) (by omega) (by omega)]; exact h6
  · rw [e0 20 _ (by omega) (by omega) (by omega), hold 20 _ (by omega) (by omega) (by omega)]; exact h7
  · rw [e0 22 _ (by omega) (by omega) (by omega), hold 22 _ (by omega) (by omega) (by omega)]; exact h8
  · rw [e0 19 _ (by omega) (by omega) (by omega), hold 19 _ (by omega) (by omega) (by omega)]; exact h9
  · rw [e21, lsK_snoc]
  · rw [e0 19 _ (by omega) (by omega) (by omega), hold 19 _ (by omega) (by omega) (by omega)]
    refine NdK_snoc (t := tdM s) (d := 0) ?_ ?_ (by omega) h11 ?_ ?_ ?_ h12
    · refine NdP_congr (t := tdM s2) (fun k k1 k2 => ⟨e0 17 k (by omega) (by omega) (by omega), e0 18 k (by omega) (by omega) (by omega), e0 19 k (by omega) (by omega) (by omega)⟩) (fun k k1 k2 => ⟨e0 20 k (by omega) (by omega) (by omega), e0 22 k (by omega) (by omega) (by omega)⟩) hnd
    · show hI s4 20 _ < 0
      rw [e0 20 _ (by omega) (by omega) (by omega), h20]
      decide
    · intro a h' e' a1 a2 a3 a4
      refine NdP_congr (t := tdM s) (fun k k1 k2 => ⟨?_, ?_, ?_⟩) (fun k k1 k2 => ⟨?_, ?_⟩) a4
      · show hI s4 17 k = hI s 17 k
        rw [e0 17 k (by omega) (by omega) (by omega), hold 17 k (by omega) (by omega) (by omega)]
      · show hI s4 18 k = hI s 18 k
        rw [e0 18 k (by omega) (by omega) (by omega), hold 18 k (by omega) (by omega) (by omega)]
      · show hI s4 19 k = hI s 19 k
        rw [e0 19 k (by omega) (by omega) (by omega), hold 19 k (by omega) (by omega) (by omega)]
      · show hI s4 20 k = hI s 20 k
        rw [e0 20 k (by omega) (by omega) (by omega), hold 20 k (by omega) (by omega) (by omega)]
      · show hI s4 22 k = hI s 22 k
        rw [e0 22 k (by omega) (by omega) (by omega), hold 22 k (by omega) (by omega) (by omega)]
    · intro k k1 k2 k3
      show hI s4 20 k = hI s 20 k
      rw [e0 20 k (by omega) (by omega) (by omega), hold 20 k (by omega) (by omega) (by omega)]
    · exact e20
  · intro q hq
    rcases List.mem_append.mp hq with hq | hq
    · obtain ⟨mid, _, g2, g3, g4⟩ := NdK_mem h12 q hq
      refine FlK_congr ?_ ?_ ?_ (h13 q hq)
      · show hI s4 17 q.1 = hI s 17 q.1
        rw [e0 17 _ (by omega) (by omega) (by omega), hold 17 _ (by omega) (by omega) (by omega)]
      · show hI s4 18 q.1 = hI s 18 q.1
        rw [e0 18 _ (by omega) (by omega) (by omega), hold 18 _ (by omega) (by omega) (by omega)]
      · show hI s4 22 q.1 = hI s 22 q.1
        rw [e0 22 _ (by omega) (by omega) (by omega), hold 22 _ (by omega) (by omega) (by omega)]
    · rw [List.mem_singleton] at hq
      subst hq
      show NdP.FlK (tdM s4) op (1600 * oth + c', (e, fl))
      unfold NdP.FlK
      dsimp only
      show if op = 2 then hI s4 22 _ = _ else if op = 3 then (if fl = true then hI s4 22 _ = 1 ∧ hI s4 17 _ = 0 ∧ 1 ≤ hI s4 18 _ else hI s4 22 _ = 0) else (hI s4 22 _ = 0 ∧ fl = false)
      rw [e22, e0 17 _ (by omega) (by omega) (by omega), e0 18 _ (by omega) (by omega) (by omega)]
      exact hfl
  · have n1 : NmP (tdM s4) (tkT tx n) (1600 * oth + c) (1600 * oth + c') i i' := h14.congr (fun k k1 k2 => ⟨by
      show hI s4 17 k = hI s 17 k
      rw [e0 17 k (by omega) (by omega) (by omega), hold 17 k (by omega) (by omega) (by omega)], by
      show hI s4 18 k = hI s 18 k
      rw [e0 18 k (by omega) (by omega) (by omega), hold 18 k (by omega) (by omega) (by omega)]⟩)
    have n2 : NmP (tdM s4) (tkT tx n) (1600 * oth + c') (1600 * oth + c2) i' j := hnm.congr (fun k k1 k2 => ⟨e0 17 k (by omega) (by omega) (by omega), e0 18 k (by omega) (by omega) (by omega)⟩)
    exact n1.app n2 (by omega) (by omega) (by omega) (by omega)
  · rw [e0 27 _ (by omega) (by omega) (by omega), hls, h15]
    constructor
    · rintro ((q | ⟨l, l1, l2, l3⟩) | ⟨l, l1, l2, l3⟩)
      · exact Or.inl q
      · exact Or.inr ⟨l, l1, by omega, l3⟩
      · exact Or.inr ⟨l, by omega, l2, l3⟩
    · rintro (q | ⟨l, l1, l2, l3⟩)
      · exact Or.inl (Or.inl q)
      · rcases Nat.lt_or_ge l i' with q | q
        · exact Or.inl (Or.inr ⟨l, l1, q, l3⟩)
        · exact Or.inr ⟨l, q, l2, l3⟩
/-- the first part -/
theorem LI_first {oth n : Nat} {tx : Nat → Int} {f c i i0 : Nat} {op num : Int} {σ s1 s2 : am_HS} (f1 : PFr oth c σ s1) (hi0 : i ≤ i0) (ho1 : hI s1 17 (1600 * oth + c) = op) (ho2 : hI s1 18 (1600 * oth + c) = num) (ho3 : hI s1 20 (1600 * oth + c) = -1) (ho4 : hI s1 22 (1600 * oth + c) = 0) (hnm : NmP (tdM s1) (tkT tx n) (1600 * oth + c) (1600 * oth + c + 1) i i0) (hl1 : hI s1 27 oth = 1 ↔ hI σ 27 oth = 1 ∨ ∃ l, i ≤ l ∧ l < i0 ∧ tkT tx n l = (3, 45)) {q : NDn × Nat} {z : Int} (hq : PQ oth n tx f (c + 1) i0 s1 (.inr q) z s2) (hj : q.2 ≤ 600) : LI oth n tx f c i op num σ [(1600 * oth + c + 1, (q.1, false))] q.2 (uI (uI s2 19 (1600 * oth + c) ((1600 * oth + c + 1 : Nat) : Int)) 21 (1600 * oth + c) ((1600 * oth + c + 1 : Nat) : Int)) ∧ PFi tx n q.2 (uI (uI s2 19 (1600 * oth + c) ((1600 * oth + c + 1 : Nat) : Int)) 21 (1600 * oth + c) ((1600 * oth + c + 1 : Nat) : Int)) := by
  obtain ⟨x2, f2, p1, p2, p3, p4, p5, c2, p6, p7, p8, p9, p10, p11⟩ := hq
  have eX : 1600 * oth + (c + 1) = 1600 * oth + c + 1 := by omega
  rw [eX] at p4 p5 p9 p10
  have ho : oth < 2 := x2.2.2.2.2.2.1
  have ry : rI (((1600 * oth + c + 1 : Nat) : Int)) := ⟨by omega, by omega⟩
  have hold : ∀ o k, 17 ≤ o → o ≤ 22 → k < 1600 * oth + c + 1 → hI s2 o k = hI s1 o k := fun o k o1 o2 k1 => f2.2 o k (by unfold scP; omega)
  generalize hs4 : uI (uI s2 19 (1600 * oth + c) ((1600 * oth + c + 1 : Nat) : Int)) 21 (1600 * oth + c) ((1600 * oth + c + 1 : Nat) : Int) = s4
  have e0 : ∀ o k, ¬ (o = 19 ∧ k = 1600 * oth + c) → ¬ (o = 21 ∧ k = 1600 * oth + c) → hI s4 o k = hI s2 o k := by
    intro o k q1 q2
    rw [← hs4, hI_uI_n q2, hI_uI_n q1]
  have e19 : hI s4 19 (1600 * oth + c) = ((1600 * oth + c + 1 : Nat) : Int) := by rw [← hs4, hI_uI_n (by omega), hI_uI_e ry]
  have e21 : hI s4 21 (1600 * oth + c) = ((1600 * oth + c + 1 : Nat) : Int) := by rw [← hs4, hI_uI_e ry]
  have fs : PFr oth c s2 s4 := by
    rw [← hs4]
    exact (((PFr.rf oth c s2).u (by unfold scP; omega)).u (by unfold scP; omega))
  have rs : rgM s4 := by
    rw [← hs4]
    exact (x2.2.1.u (rg_free (by omega) ry)).u (rg_free (by omega) ry)
  refine ⟨⟨x2.of fs rs, (f1.tr f2 (by omega)).tr fs (Nat.le_refl _), by omega, c2, ?_, by omega, p8, ?_, ?_, ?_, ?_, ?_, ?_, by simp, ?_, ?_, ?_, ?_⟩, p1.of (fun k hk => e0 0 k (by omega) (by omega))⟩
  · rw [e0 0 36 (by omega) (by omega)]; exact p6
  · rw [e0 17 _ (by omega) (by omega), hold 17 _ (by omega) (by omega) (by omega)]; exact ho1
  · rw [e0 18 _ (by omega) (by omega), hold 18 _ (by omega) (by omega) (by omega)]; exact ho2
  · rw [e0 20 _ (by omega) (by omega), hold 20 _ (by omega) (by omega) (by omega)]; exact ho3
  · rw [e0 22 _ (by omega) (by omega), hold 22 _ (by omega) (by omega) (by omega)]; exact ho4
  · rw [e19]; omega
  · exact e21
  · rw [e19]
    refine ⟨rfl, rfl, 1600 * oth + c2, by omega, ?_, ?_, rfl⟩
    · exact NdP_congr (t := tdM s2) (fun k k1 k2 => ⟨e0 17 k (by omega) (by omega), e0 18 k (by omega) (by omega), e0 19 k (by omega) (by omega)⟩) (fun k k1 k2 => ⟨e0 20 k (by omega) (by omega), e0 22 k (by omega) (by omega)⟩) p9
    · show hI s4 20 _ < 0
      rw [e0 20 _ (by omega) (by omega), p4]
      decide
  · intro q1 hq1
    rw [List.mem_singleton] at hq1
    subst hq1
    have e22 : hI s4 22 (1600 * oth + c + 1) = 0 := by rw [e0 22 _ (by omega) (by omega)]; exact p5
    unfold NdP.FlK
    dsimp only
    show if op = 2 then hI s4 22 _ = _ else if op = 3 then (if false = true then _ else hI s4 22 _ = 0) else (hI s4 22 _ = 0 ∧ false = false)
    rw [e22]
    exact FlB_f op 0 0
  · have n1 : NmP (tdM s4) (tkT tx n) (1600 * oth + c) (1600 * oth + c + 1) i i0 := hnm.congr (fun k k1 k2 => ⟨by
      show hI s4 17 k = hI s1 17 k
      rw [e0 17 k (by omega) (by omega), hold 17 k (by omega) (by omega) (by omega)], by
      show hI s4 18 k = hI s1 18 k
      rw [e0 18 k (by omega) (by omega), hold 18 k (by omega) (by omega) (by omega)]⟩)
    have n2 : NmP (tdM s4) (tkT tx n) (1600 * oth + c + 1) (1600 * oth + c2) i0 q.2 := p10.congr (fun k k1 k2 => ⟨e0 17 k (by omega) (by omega), e0 18 k (by omega) (by omega)⟩)
    exact n1.app n2 (by omega) (by omega) (by omega) (by omega)
  · rw [e0 27 _ (by omega) (by omega), p11, hl1]
    constructor
    · rintro ((g | ⟨l, l1, l2, l3⟩) | ⟨l, l1, l2, l3⟩)
      · exact Or.inl g
      · exact Or.inr ⟨l, l1, by omega, l3⟩
      · exact Or.inr ⟨l, by omega, l2, l3⟩
    · rintro (g | ⟨l, l1, l2, l3⟩)
      · exact Or.inl (Or.inl g)
      · rcases Nat.lt_or_ge l i0 with g | g
        · exact Or.inl (Or.inr ⟨l, l1, g, l3⟩)
        · exact Or.inr ⟨l, g, l2, l3⟩
/-- the node is whole -/
theorem LI_end {oth n : Nat} {tx : Nat → Int} {f c i : Nat} {op num : Int} {σ : am_HS} {cs : List (Nat × (NDn × Bool))} {i' : Nat} {s : am_HS} (h : LI oth n tx f c i op num σ cs i' s) (hp : PFi tx n i' s) (h1 : 2 ≤ op ∧ op ≤ 10) (h2 : 0 ≤ num ∧ num ≤ 9999) (h3 : 4 ≤ op → cs.length ≤ 10) (h4 : 9 ≤ op → cs.length = 1) : PQ oth n tx (f + 1) c i σ (.inr (cmbL op num (cs.map (fun q => q.2)), i')) ((1600 * oth + c : Nat) : Int) s := by
  obtain ⟨x1, f1, g1, c', g2, g3, g4, g5, g6, g7, g8, g9, g10, g11, g12, g13, g14, g15⟩ := h
  have hi := hp.le
  have ho : oth < 2 := x1.2.2.2.2.2.1
  have hn : n ≤ 600 := x1.2.2.2.2.2.2
  refine ⟨x1, f1, hp, g1, rfl, g7, g8, c', g2, g3, g4, ⟨by omega, by omega, Or.inr (Or.inr ?_)⟩, g14, g15⟩
  have e1 : (tdM s).1 (1600 * oth + c) = op := g5
  have e2 : (tdM s).2.1 (1600 * oth + c) = num := g6
  rw [e1, e2]
  exact ⟨h1, h2, cs, g11, h3, h4, g12, g13, rfl⟩

