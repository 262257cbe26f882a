/-! THE CLASS: a part of the grammar -/
theorem take_ok {D : Nat} (hD : 2 ≤ D) {tx : Nat → Int} {n W b B r i k : Nat} (s : am_HS) (hx : CX tx n W b B r s) (hi : CI W B i k s) (due : Int) (hm : hI s 4 7 = due → i < W) : am_Do lc D mX1_take s [vR (some 4), vI due] (qV fun u => (hI s 4 7 = due → u = tnS s (i + 1)) ∧ (hI s 4 7 ≠ due → u = flS s i)) := by
  have h5 := hi.2.2.2.2.1
  have h4 := hi.2.2.2.1
  have hW : W ≤ 600 := hx.2.2.2.1.2.2
  by_cases hq : hI s 4 7 = due
  · have hl := hm hq
    refine (cc1_take hD s hx.1 i (by omega) hi.1 due).mono ?_
    rintro res u ⟨rfl, h⟩
    rw [if_pos ⟨h4, hq⟩] at h
    exact ⟨rfl, fun _ => h, fun z => absurd hq z⟩
  · refine (cc1_takeX hD s hx.1 i (by omega) hi.1 due hq).mono ?_
    rintro res u ⟨rfl, h⟩
    exact ⟨rfl, fun z => absurd z hq, fun _ => h⟩
theorem cdT_tn {s : am_HS} {i B : Nat} (hB : B < 2) : cdT (tnS s i) B = cdT s B := by
  funext k
  unfold cdT
  rw [tnS_o (o := 25 + 9 * B) (j := k) (by omega), tnS_o (o := 26 + 9 * B) (j := k) (by omega), tnS_o (o := 27 + 9 * B) (j := k) (by omega)]
theorem QD.pre {tx : Nat → Int} {n W b B r m h i k : Nat} {σ s1 s : am_HS} {res : PR} (hf : ∀ c, CF B c σ s1) (hm : hI s1 (6 + B) 1 = hI σ (6 + B) 1) (h2 : hI σ (6 + B) 1 = 0 ∨ hI σ (6 + B) 1 = 1) (hsk : (tkT tx n i).1 ≠ 2 ∨ fnS (tkT tx n i).2 ≠ 0) (hno : tkT tx n i ≠ (3, 45)) (q : QD tx n W b B r m h (i + 1) k s1 res s) : QD tx n W b B r m h i k σ res s := by
  obtain ⟨q1, q2, q3⟩ := q
  refine ⟨q1, (hf 0).tr q2 (by omega), ?_⟩
  cases res with
  | inl f => exact q3
  | inr e =>
    obtain ⟨g1, g2, k2, g3, g4, g5, g6, g7, g8, g9⟩ := q3
    exact ⟨(hf k).tr g1 (by omega), by omega, k2, g3, g4, by omega, g6, (NmP.skip hsk).app g7 (by omega) (by omega) (by omega) (by omega), (MnQ.no hm h2 hno).tr g8 (by omega) (by omega), g9⟩
theorem QD.post {tx : Nat → Int} {n W b B r m h i k j : Nat} {σ s : am_HS} {e : NDn} (q : QD tx n W b B r m h i k σ (.inr (e, j)) s) (hsk : (tkT tx n j).1 ≠ 2 ∨ fnS (tkT tx n j).2 ≠ 0) (hno : tkT tx n j ≠ (3, 45)) (hj : j < W) : QD tx n W b B r m h i k σ (.inr (e, j + 1)) (tnS s (j + 1)) := by
  obtain ⟨q1, q2, g1, g2, k2, g3, g4, g5, g6, g7, g8, g9⟩ := q
  dsimp only at g2 g3 g5 g7 g8
  obtain ⟨t1, t2, t3⟩ := tn_ok q1 g3 hj
  have hB : B < 2 := by have := q1.2.2.2.1.1; omega
  refine ⟨t1, q2.tr (t3 0) (by omega), g1.tr (t3 k) (by omega), (by show i < j + 1; omega), k2, t2, g4, (by show k2 + 1 ≤ k + 2 * (j + 1 - i); omega), ?_, ?_, ?_, ?_⟩
  · rw [cdT_tn hB]; exact g6
  · rw [cdT_tn hB]; exact g7.app (NmP.skip hsk) (by omega) (by omega) (by omega) (by omega)
  · exact g8.tr (MnQ.no (tnS_o (by omega)) g8.1 hno) (by omega) (by omega)
  · rw [tnS_o (by omega)]; exact g9
theorem QD.bad {tx : Nat → Int} {n W b B r m h m2 h2 i k j : Nat} {σ s : am_HS} {e : NDn} (q : QD tx n W b B r m h i k σ (.inr (e, j)) s) (hk : k ≤ 2 * i) : QD tx n W b B r m2 h2 i k σ (.inl j) (flS s j) := by
  obtain ⟨q1, q2, g1, g2, k2, g3, g4, g5, g6⟩ := q
  dsimp only at g2 g3 g5
  have hj := g3.2.2.2.2.1
  have hW : W ≤ 600 := q1.2.2.2.1.2.2
  obtain ⟨f1, f2, f3, f4⟩ := fl_ok q1 g3 (by omega)
  exact ⟨f2, q2.tr (f4 0) (by omega), f3⟩
theorem QD.up {tx : Nat → Int} {n W b B r m h h2 i k : Nat} {σ s : am_HS} {res : PR} (hh : h ≤ h2) (q : QD tx n W b B r m h i k σ res s) : QD tx n W b B r m h2 i k σ res s := by
  obtain ⟨q1, q2, q3⟩ := q
  refine ⟨q1, q2, ?_⟩
  cases res with
  | inl f => exact q3
  | inr e =>
    obtain ⟨g1, g2, k2, g3, g4, g5, g6, g7⟩ := q3
    exact ⟨g1, g2, k2, g3, g4, g5, g6.up hh, g7⟩
/-- one step for one word -/
theorem QD.one {tx : Nat → Int} {n W b B r h i k : Nat} {σ s1 : am_HS} {e : NDn} (hx : CX tx n W b B r s1) (hi : CI W B i (k + 1) s1) (hf : CF B k σ s1) (he : hI s1 (21 + 9 * B) r = ((k + 1 : Nat) : Int)) (hm : hI s1 (6 + B) 1 = hI σ (6 + B) 1) (h2 : hI σ (6 + B) 1 = 0 ∨ hI σ (6 + B) 1 = 1) (hno : tkT tx n i ≠ (3, 45)) (hj : i < W) (hc : Cd (cdT s1 B) 0 h k (k + 1) [(e, false)]) (hN : NmP (tdC (cdT s1 B)) (tkT tx n) k (k + 1) i (i + 1)) : QD tx n W b B r 0 h i k σ (.inr (e, i + 1)) (tnS s1 (i + 1)) := by
  obtain ⟨t1, t2, t3⟩ := tn_ok hx hi hj
  have hB : B < 2 := by have := hx.2.2.2.1.1; omega
  refine ⟨t1, hf.z.tr (t3 0) (by omega), hf.tr (t3 k) (by omega), (by show i < i + 1; omega), k + 1, t2, by omega, (by show k + 1 + 1 ≤ k + 2 * (i + 1 - i); omega), ?_, ?_, ?_, ?_⟩
  · rw [cdT_tn hB]; exact hc
  · rw [cdT_tn hB]; exact hN
  · exact MnQ.no ((tnS_o (by omega)).trans hm) h2 hno
  · rw [tnS_o (by omega)]; exact he
def KCA (tx : Nat → Int) (n W b B r h D : Nat) (dp : Int) (sm : Option (Nat → PR)) : Prop := ∀ (i k : Nat) (σ : am_HS) (op : Int), CX tx n W b B r σ → CI W B i k σ → (hI σ (6 + B) 1 = 0 ∨ hI σ (6 + B) 1 = 1) → k ≤ 2 * i → (4 ≤ op ∧ op ≤ 10) → am_Do lc D mX1_readCall σ [vR (some 4), vI (op + 2), vI dp] (qV fun s => QD tx n W b B r 0 h i k σ (pLi sm (tkT tx n) op i) s)
