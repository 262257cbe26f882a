/-! THE CLASS: a product of the grammar -/
def QL (tx : Nat → Int) (n W b B r m h i k : Nat) (σ : am_HS) (l : List (NDn × Bool)) (j k2 : Nat) (s : am_HS) : Prop := CX tx n W b B r s ∧ CF B k σ s ∧ i < j ∧ CI W B j k2 s ∧ k < k2 ∧ k2 + 1 ≤ k + 2 * (j - i) ∧ Cd (cdT s B) m h k k2 l ∧ NmP (tdC (cdT s B)) (tkT tx n) k k2 i j ∧ MnQ tx n B i j σ s ∧ hI s (21 + 9 * B) r = (k2 : Int)
theorem QD.ql {tx : Nat → Int} {n W b B r m h i k j : Nat} {σ s : am_HS} {e : NDn} (q : QD tx n W b B r m h i k σ (.inr (e, j)) s) : ∃ k2, QL tx n W b B r m h i k σ [(e, false)] j k2 s := by
  obtain ⟨q1, q2, g1, g2, k2, g3, g4, g5, g6, g7, g8, g9⟩ := q
  exact ⟨k2, q1, g1, g2, g3, g4, g5, g6, g7, g8, g9⟩
theorem QL.qd {tx : Nat → Int} {n W b B r m h i k j k2 : Nat} {σ s : am_HS} {e : NDn} (q : QL tx n W b B r m h i k σ [(e, false)] j k2 s) : QD tx n W b B r m h i k σ (.inr (e, j)) s := by
  obtain ⟨q1, q2, q3, q4, q5, q6, q7, q8, q9, q10⟩ := q
  exact ⟨q1, q2.z, q2, q3, k2, q4, q5, q6, q7, q8, q9, q10⟩
theorem cdT_ad {tx : Nat → Int} {n W b B r j k : Nat} {s : am_HS} (hx : CX tx n W b B r s) (h : CI W B j k s) (hk : k < 1200) {op ar ta : Int} (ro : rI op) (ra : rI ar) (rt : rI ta) : (∀ x, x < k → cdT (adS s B k r op ar ta) B x = cdT s B x) ∧ cdT (adS s B k r op ar ta) B k = (op, ar, ta) := by
  have A := ad_ok hx h hk ro ra rt
  have hB : B < 2 := by have := hx.2.2.2.1.1; omega
  exact ⟨fun x hx2 => A.2.2.1.cd hB hx2, A.2.2.2.1⟩
/-- one step more, no word; it names nothing -/
theorem QL.add {tx : Nat → Int} {n W b B r m h m2 h2 i k j k2 : Nat} {σ s : am_HS} {l l2 : List (NDn × Bool)} (q : QL tx n W b B r m h i k σ l j k2 s) (hk : k ≤ 2 * i) (hs : k2 + 2 ≤ k + 2 * (j - i)) {op ar ta : Int} (ro : rI op) (ra : rI ar) (rt : rI ta) (hop : op ≠ 1) (hc : ∀ c : CTb, (∀ x, k ≤ x → x < k2 → c x = cdT s B x) → c k2 = (op, ar, ta) → Cd c m h k k2 l → Cd c m2 h2 k (k2 + 1) l2) : QL tx n W b B r m2 h2 i k σ l2 j (k2 + 1) (adS s B k2 r op ar ta) := by
  obtain ⟨q1, q2, q3, q4, q5, q6, q7, q8, q9, q10⟩ := q
  have hj := q4.2.2.2.2.1
  have hW : W ≤ 600 := q1.2.2.2.1.2.2
  have hB : B < 2 := by have := q1.2.2.2.1.1; omega
  have hk12 : k2 < 1200 := by omega
  obtain ⟨a1, a2, a3, a4, a5⟩ := ad_ok q1 q4 hk12 ro ra rt
  have hm := adS_o (s := s) (B := B) (k := k2) (r := r) (op := op) (ar := ar) (ta := ta) (o := 6 + B) (j := 1) (by omega) (by omega) (by omega)
  have hcx : ∀ x, k ≤ x → x < k2 → cdT (adS s B k2 r op ar ta) B x = cdT s B x := fun x _ hx => a3.cd hB hx
  refine ⟨a1, q2.tr a3 (by omega), q3, a2, by omega, by omega, hc _ hcx a4 (q7.congr hcx), ?_, ?_, a5⟩
  · exact (q8.congr (fun x x1 x2 => ⟨congrArg (fun y => y.1) (hcx x x1 x2), congrArg (fun y => y.2.1) (hcx x x1 x2)⟩)).app (NmP.nodeNo (by show (cdT _ B k2).1 ≠ 1; rw [a4]; exact hop)) (by omega) (by omega) (by omega) (by omega)
  · exact q9.tr (MnQ.rf hm q9.1) (by omega) (by omega)
/-- one word more, no step; it is no name -/
theorem QL.tok {tx : Nat → Int} {n W b B r m h i k j k2 : Nat} {σ s : am_HS} {l : List (NDn × Bool)} (q : QL tx n W b B r m h i k σ l j k2 s) (hsk : (tkT tx n j).1 ≠ 2 ∨ fnS (tkT tx n j).2 ≠ 0) (hno : tkT tx n j ≠ (3, 45)) (hj : j < W) : QL tx n W b B r m h i k σ l (j + 1) k2 (tnS s (j + 1)) := by
  obtain ⟨q1, q2, q3, q4, q5, q6, q7, q8, q9, q10⟩ := q
  obtain ⟨t1, t2, t3⟩ := tn_ok q1 q4 hj
  have hB : B < 2 := by have := q1.2.2.2.1.1; omega
  refine ⟨t1, q2.tr (t3 k) (by omega), by omega, t2, q5, by omega, ?_, ?_, ?_, ?_⟩
  · rw [cdT_tn hB]; exact q7
  · rw [cdT_tn hB]; exact q8.app (NmP.skip hsk) (by omega) (by omega) (by omega) (by omega)
  · exact q9.tr (MnQ.no (tnS_o (by omega)) q9.1 hno) (by omega) (by omega)
  · rw [tnS_o (by omega)]; exact q10
/-- what was read from the next word on is put behind -/
theorem QL.part {tx : Nat → Int} {n W b B r m h m2 h2 i k j k2 j3 k3 : Nat} {σ s u : am_HS} {l l2 : List (NDn × Bool)} (q : QL tx n W b B r m h i k σ l j k2 s) (p : QL tx n W b B r m2 h2 j k2 s l2 j3 k3 u) : CX tx n W b B r u ∧ CF B k σ u ∧ i < j3 ∧ CI W B j3 k3 u ∧ k < k3 ∧ k3 + 2 ≤ k + 2 * (j3 - i) ∧ Cd (cdT u B) m h k k2 l ∧ Cd (cdT u B) m2 h2 k2 k3 l2 ∧ NmP (tdC (cdT u B)) (tkT tx n) k k3 i j3 ∧ MnQ tx n B i j3 σ u ∧ hI u (21 + 9 * B) r = (k3 : Int) := by
  obtain ⟨q1, q2, q3, q4, q5, q6, q7, q8, q9, q10⟩ := q
  obtain ⟨p1, p2, p3, p4, p5, p6, p7, p8, p9, p10⟩ := p
  have hB : B < 2 := by have := q1.2.2.2.1.1; omega
  have hcx : ∀ x, k ≤ x → x < k2 → cdT u B x = cdT s B x := fun x _ hx => p2.cd hB hx
  exact ⟨p1, q2.tr p2 (by omega), by omega, p4, by omega, by omega, q7.congr hcx, p7, (q8.congr (fun x x1 x2 => ⟨congrArg (fun y => y.1) (hcx x x1 x2), congrArg (fun y => y.2.1) (hcx x x1 x2)⟩)).app p8 (by omega) (by omega) (by omega) (by omega), q9.tr p9 (by omega) (by omega), p10⟩
