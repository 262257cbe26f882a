/-! trees before the names are tied: what keeps them -/
theorem NdK_le {t : TD} {P : Nat → Nat → NDn → Prop} : ∀ {cs : List (Nat × (NDn × Bool))} {y : Int} {lo hi : Nat}, NdP.NdK t P y lo hi cs → lo ≤ hi
  | [], _, _, _, h => Nat.le_of_eq h.2
  | _ :: _, _, _, _, h => by
    obtain ⟨_, _, mid, h3, _, h5⟩ := h
    have := NdK_le h5
    omega
theorem NdK_mem {t : TD} {P : Nat → Nat → NDn → Prop} : ∀ {cs : List (Nat × (NDn × Bool))} {y : Int} {lo hi : Nat}, NdP.NdK t P y lo hi cs → ∀ q ∈ cs, ∃ mid, P q.1 mid q.2.1 ∧ lo ≤ q.1 ∧ mid ≤ hi ∧ q.1 < mid
  | [], _, _, _, _, _, hq => by cases hq
  | c :: l, y, lo, hi, h, q, hq => by
    obtain ⟨h1, h2, mid, h3, h4, h5⟩ := h
    have hle := NdK_le h5
    rcases List.mem_cons.mp hq with rfl | hq
    · exact ⟨mid, by rw [h2]; exact h4, by omega, hle, by omega⟩
    · obtain ⟨m2, g1, g2, g3, g4⟩ := NdK_mem h5 q hq
      exact ⟨m2, g1, by omega, g3, g4⟩
theorem NdK_congr {t t' : TD} {P P' : Nat → Nat → NDn → Prop} : ∀ {cs : List (Nat × (NDn × Bool))} {y : Int} {lo hi : Nat}, (∀ x h e, lo ≤ x → h ≤ hi → P x h e → P' x h e) → (∀ j, lo ≤ j → j < hi → t'.2.2.2.1 j = t.2.2.2.1 j) → NdP.NdK t P y lo hi cs → NdP.NdK t' P' y lo hi cs
  | [], _, _, _, _, _, h => h
  | c :: l, y, lo, hi, hP, hb, h => by
    obtain ⟨h1, h2, mid, h3, h4, h5⟩ := h
    have hle := NdK_le h5
    refine ⟨h1, h2, mid, h3, hP _ _ _ (Nat.le_refl _) hle h4, ?_⟩
    rw [hb lo (Nat.le_refl _) (by omega)]
    exact NdK_congr (fun x h e a b c => hP x h e (by omega) b c) (fun j a b => hb j (by omega) b) h5
theorem NdP_r {t : TD} {f x hi : Nat} {e : NDn} (h : NdP t f x hi e) : x < hi ∧ hi ≤ 3200 := by
  cases f with
  | zero => exact h.elim
  | succ f => exact ⟨h.2.1, h.1⟩
theorem FlK_congr {t t' : TD} {op : Int} {q : Nat × (NDn × Bool)} (h1 : t'.1 q.1 = t.1 q.1) (h2 : t'.2.1 q.1 = t.2.1 q.1) (h3 : t'.2.2.2.2 q.1 = t.2.2.2.2 q.1) (h : NdP.FlK t op q) : NdP.FlK t' op q := by
  unfold NdP.FlK at *
  rw [h1, h2, h3]
  exact h
theorem NdP_congr {t t' : TD} : ∀ {f x hi : Nat} {e : NDn}, (∀ j, x ≤ j → j < hi → t'.1 j = t.1 j ∧ t'.2.1 j = t.2.1 j ∧ t'.2.2.1 j = t.2.2.1 j) → (∀ j, x < j → j < hi → t'.2.2.2.1 j = t.2.2.2.1 j ∧ t'.2.2.2.2 j = t.2.2.2.2 j) → NdP t f x hi e → NdP t' f x hi e
  | 0, _, _, _, _, _, h => h.elim
  | f + 1, x, hi, e, ha, hb, h => by
    obtain ⟨h1, h2, h3⟩ := h
    obtain ⟨a1, a2, a3⟩ := ha x (Nat.le_refl _) h2
    refine ⟨h1, h2, ?_⟩
    rw [a1, a2, a3]
    rcases h3 with h3 | h3 | ⟨h3, h4, cs, h5, h6, h7, h8, h9, h10⟩
    · exact Or.inl h3
    · exact Or.inr (Or.inl h3)
    · refine Or.inr (Or.inr ⟨h3, h4, cs, h5, h6, h7, ?_, ?_, h10⟩)
      · exact NdK_congr (fun y h e c1 c2 c3 => NdP_congr (fun j d1 d2 => ha j (by omega) (by omega)) (fun j d1 d2 => hb j (by omega) (by omega)) c3) (fun j c1 c2 => (hb j (by omega) c2).1) h8
      · intro q hq
        obtain ⟨mid, _, g2, g3, g4⟩ := NdK_mem h8 q hq
        have := ha q.1 (by omega) (by omega)
        exact FlK_congr this.1 this.2.1 (hb q.1 (by omega) (by omega)).2 (h9 q hq)
theorem NdP_up {t : TD} : ∀ {f x hi : Nat} {e : NDn}, NdP t f x hi e → NdP t (f + 1) x hi e
  | 0, _, _, _, h => h.elim
  | f + 1, x, hi, e, h => by
    obtain ⟨h1, h2, h3⟩ := h
    refine ⟨h1, h2, ?_⟩
    rcases h3 with h3 | h3 | ⟨h3, h4, cs, h5, h6, h7, h8, h9, h10⟩
    · exact Or.inl h3
    · exact Or.inr (Or.inl h3)
    · exact Or.inr (Or.inr ⟨h3, h4, cs, h5, h6, h7, NdK_congr (fun y h e _ _ c3 => NdP_up c3) (fun _ _ _ => rfl) h8, h9, h10⟩)
def lsK (d : Nat) : List (Nat × (NDn × Bool)) → Nat
  | [] => d
  | q :: l => lsK q.1 l
theorem lsK_snoc (d : Nat) (l : List (Nat × (NDn × Bool))) (q : Nat × (NDn × Bool)) : lsK d (l ++ [q]) = q.1 := by
  induction l generalizing d with
  | nil => rfl
  | cons a t ih => exact ih a.1
theorem lsK_r {t : TD} {P : Nat → Nat → NDn → Prop} : ∀ {cs : List (Nat × (NDn × Bool))} {y : Int} {lo hi d : Nat}, cs ≠ [] → NdP.NdK t P y lo hi cs → lo ≤ lsK d cs ∧ lsK d cs < hi
  | [], _, _, _, _, h, _ => absurd rfl h
  | [q], y, lo, hi, d, _, h => by
    obtain ⟨h1, h2, mid, h3, h4, h5⟩ := h
    have := h5.2
    show lo ≤ q.1 ∧ q.1 < hi
    omega
  | q :: r :: l, y, lo, hi, d, _, h => by
    obtain ⟨h1, h2, mid, h3, h4, h5⟩ := h
    have := lsK_r (d := q.1) (by simp) h5
    show lo ≤ lsK q.1 (r :: l) ∧ lsK q.1 (r :: l) < hi
    omega
theorem NdK_snoc {t t' : TD} {P P' : Nat → Nat → NDn → Prop} {hi hi2 : Nat} {b : NDn × Bool} (h6 : P' hi hi2 b.1) (h7 : t'.2.2.2.1 hi < 0) (h8 : hi < hi2) : ∀ {cs : List (Nat × (NDn × Bool))} {y : Int} {lo d : Nat}, cs ≠ [] → (∀ x h e, lo ≤ x → h ≤ hi → (h ≤ lsK d cs ∨ x = lsK d cs) → P x h e → P' x h e) → (∀ j, lo ≤ j → j < hi → j ≠ lsK d cs → t'.2.2.2.1 j = t.2.2.2.1 j) → t'.2.2.2.1 (lsK d cs) = (hi : Int) → NdP.NdK t P y lo hi cs → NdP.NdK t' P' y lo hi2 (cs ++ [(hi, b)])
  | [], _, _, _, h, _, _, _, _ => absurd rfl h
  | [q], y, lo, d, _, hP, hb, hl, h => by
    obtain ⟨h1, h2, mid, h3, h4, h5⟩ := h
    have e5 := h5.2
    subst e5
    have e2 : t'.2.2.2.1 lo = (mid : Int) := by rw [← h2]; exact hl
    exact ⟨h1, h2, mid, h3, hP _ _ _ (Nat.le_refl _) (Nat.le_refl _) (Or.inr h2.symm) h4, e2, rfl, hi2, h8, h6, h7, rfl⟩
  | q :: r :: l, y, lo, d, _, hP, hb, hl, h => by
    obtain ⟨h1, h2, mid, h3, h4, h5⟩ := h
    have hle := NdK_le h5
    have hr := lsK_r (d := q.1) (by simp) h5
    have hl' : t'.2.2.2.1 (lsK q.1 (r :: l)) = (hi : Int) := hl
    refine ⟨h1, h2, mid, h3, hP _ _ _ (Nat.le_refl _) hle (Or.inl hr.1) h4, ?_⟩
    rw [hb lo (Nat.le_refl _) (by omega) (by show lo ≠ lsK q.1 (r :: l); omega)]
    exact NdK_snoc h6 h7 h8 (by simp) (fun x h e a b c g => hP x h e (by omega) b c g) (fun j a b c => hb j (by omega) b c) hl' h5
/-- the names of a stretch of nodes are those of a stretch of words -/
def NmP (t : TD) (T : Nat → Int × Int) (lo hi i j : Nat) : Prop := (∀ k, lo ≤ k → k < hi → t.1 k = 1 → ∃ l, i ≤ l ∧ l < j ∧ T l = (2, t.2.1 k) ∧ fnS (t.2.1 k) = 0) ∧ (∀ l v, i ≤ l → l < j → T l = (2, v) → fnS v = 0 → ∃ k, lo ≤ k ∧ k < hi ∧ t.1 k = 1 ∧ t.2.1 k = v)
theorem NmP.app {t : TD} {T : Nat → Int × Int} {a b c i j k : Nat} (h1 : NmP t T a b i j) (h2 : NmP t T b c j k) (hab : a ≤ b) (hbc : b ≤ c) (hij : i ≤ j) (hjk : j ≤ k) : NmP t T a c i k := by
  refine ⟨fun x x1 x2 x3 => ?_, fun l v l1 l2 l3 l4 => ?_⟩
  · rcases Nat.lt_or_ge x b with q | q
    · obtain ⟨l, g1, g2, g3⟩ := h1.1 x x1 q x3
      exact ⟨l, g1, by omega, g3⟩
    · obtain ⟨l, g1, g2, g3⟩ := h2.1 x q x2 x3
      exact ⟨l, by omega, g2, g3⟩
  · rcases Nat.lt_or_ge l j with q | q
    · obtain ⟨x, g1, g2, g3⟩ := h1.2 l v l1 q l3 l4
      exact ⟨x, g1, by omega, g3⟩
    · obtain ⟨x, g1, g2, g3⟩ := h2.2 l v q l2 l3 l4
      exact ⟨x, by omega, g2, g3⟩
theorem NmP.congr {t t' : TD} {T : Nat → Int × Int} {a b i j : Nat} (h : NmP t T a b i j) (he : ∀ k, a ≤ k → k < b → t'.1 k = t.1 k ∧ t'.2.1 k = t.2.1 k) : NmP t' T a b i j := by
  refine ⟨fun x x1 x2 x3 => ?_, fun l v l1 l2 l3 l4 => ?_⟩
  · obtain ⟨e1, e2⟩ := he x x1 x2
    rw [e1] at x3
    rw [e2]
    exact h.1 x x1 x2 x3
  · obtain ⟨x, g1, g2, g3, g4⟩ := h.2 l v l1 l2 l3 l4
    obtain ⟨e1, e2⟩ := he x g1 g2
    exact ⟨x, g1, g2, by rw [e1]; exact g3, by rw [e2]; exact g4⟩
/-- a word that is no name -/
theorem NmP.skip {t : TD} {T : Nat → Int × Int} {a i : Nat} (h : (T i).1 ≠ 2 ∨ fnS (T i).2 ≠ 0) : NmP t T a a i (i + 1) := by
  refine ⟨fun x x1 x2 x3 => by omega, fun l v l1 l2 l3 l4 => ?_⟩
  have e : l = i := by omega
  subst e
  rw [l3] at h
  rcases h with h | h
  · exact absurd rfl h
  · exact absurd l4 h
theorem NmP.nil {t : TD} {T : Nat → Int × Int} {a i : Nat} : NmP t T a a i i := ⟨fun x x1 x2 x3 => by omega, fun l v l1 l2 l3 l4 => by omega⟩
/-- a node that is no name -/
theorem NmP.nodeNo {t : TD} {T : Nat → Int × Int} {a i : Nat} (h : t.1 a ≠ 1) : NmP t T a (a + 1) i i := by
  refine ⟨fun x x1 x2 x3 => ?_, fun l v l1 l2 l3 l4 => by omega⟩
  have e : x = a := by omega
  subst e
  exact absurd x3 h
theorem NmP.name {t : TD} {T : Nat → Int × Int} {a i : Nat} {v : Int} (h1 : t.1 a = 1) (h2 : t.2.1 a = v) (h3 : T i = (2, v)) (h4 : fnS v = 0) : NmP t T a (a + 1) i (i + 1) := by
  refine ⟨fun x x1 x2 x3 => ?_, fun l v l1 l2 l3 l4 => ?_⟩
  · have e : x = a := by omega
    subst e
    rw [h2]
    exact ⟨i, Nat.le_refl _, by omega, h3, h4⟩
  · have e : l = i := by omega
    subst e
    rw [h3] at l3
    injection l3 with _ e
    exact ⟨a, Nat.le_refl _, by omega, h1, by rw [h2, e]⟩
/-! words: their numbers, how far they reach -/
theorem rnS_cl {tx : Nat → Int} {k : Nat} : ∀ (m a i : Nat), a ≤ i → i < rnS tx k m a → clS (tx i) = k
  | 0, a, i, h1, h2 => by simp only [rnS] at h2; omega
  | m + 1, a, i, h1, h2 => by
    unfold rnS at h2
    split at h2
    · rename_i h3
      rcases Nat.lt_or_ge a i with q | q
      · exact rnS_cl m (a + 1) i q h2
      · have : i = a := by omega
        rw [this]; exact h3
    · omega
theorem wdS_d {tx : Nat → Int} {a : Nat} : ∀ j, (∀ i, i < j → clS (tx (a + i)) = 1) → 0 ≤ wdS tx 1 a j ∧ wdS tx 1 a j < ((10 ^ j : Nat) : Int)
  | 0, _ => ⟨Int.le_refl _, by show (0 : Int) < 1; decide⟩
  | j + 1, h => by
    have ih := wdS_d j (fun i hi => h i (by omega))
    have hj := h j (by omega)
    have hc := clS_r (tx (a + j))
    have e : ((10 ^ (j + 1) : Nat) : Int) = 10 * ((10 ^ j : Nat) : Int) := by rw [Nat.pow_succ]; omega
    unfold wdS
    rw [e, if_pos rfl]
    omega
theorem tkS_num {tx : Nat → Int} {n a : Nat} : ((tkS tx n a).1 = 1 → 0 ≤ (tkS tx n a).2.1 ∧ (tkS tx n a).2.1 ≤ 9999) ∧ ((tkS tx n a).1 = 2 → 0 ≤ (tkS tx n a).2.1 ∧ (tkS tx n a).2.1 ≤ 531440) := by
  unfold tkS
  split
  · exact ⟨fun h => absurd (show (0 : Int) = 1 from h) (by decide), fun h => absurd (show (0 : Int) = 2 from h) (by decide)⟩
  · split
    · dsimp only
      constructor
      · intro h
        split at h
        · omega
        · omega
      · intro h
        split at h
        · omega
        · omega
    · split
      · exact ⟨fun h => absurd (show (4 : Int) = 1 from h) (by decide), fun h => absurd (show (4 : Int) = 2 from h) (by decide)⟩
      · rename_i h1 h2 h3
        have h4 := rnS_r tx (clS (tx (skS tx (n - a) a))) (n - skS tx (n - a) a) (skS tx (n - a) a)
        have hcl : ∀ i, i < rnS tx (clS (tx (skS tx (n - a) a))) (n - skS tx (n - a) a) (skS tx (n - a) a) - skS tx (n - a) a → clS (tx (skS tx (n - a) a + i)) = clS (tx (skS tx (n - a) a)) := fun i hi => rnS_cl (n - skS tx (n - a) a) (skS tx (n - a) a) (skS tx (n - a) a + i) (by omega) (by omega)
        generalize rnS tx (clS (tx (skS tx (n - a) a))) (n - skS tx (n - a) a) (skS tx (n - a) a) = e at *
        generalize skS tx (n - a) a = b at *
        constructor
        · intro h
          have hk : clS (tx b) = 1 := by
            have : ((clS (tx b) : Nat) : Int) = 1 := h
            omega
          rw [hk] at hcl
          have g := wdS_d (e - b) hcl
          have g2 := Nat.pow_le_pow_right (n := 10) (by decide) (show e - b ≤ 4 by omega)
          have g3 : (10 : Nat) ^ 4 = 10000 := by decide
          dsimp only
          rw [hk]
          omega
        · intro h
          have hk : clS (tx b) = 2 := by
            have : ((clS (tx b) : Nat) : Int) = 2 := h
            omega
          rw [hk] at hcl
          have g := wdS_r (k := 2) (Or.inr rfl) (e - b) hcl
          have g2 := Nat.pow_le_pow_right (n := 27) (by decide) (show e - b ≤ 4 by omega)
          have g3 : (27 : Nat) ^ 4 = 531441 := by decide
          dsimp only
          rw [hk]
          omega
theorem tkT_num {tx : Nat → Int} {n i : Nat} (h : (tkT tx n i).1 = 1) : 0 ≤ (tkT tx n i).2 ∧ (tkT tx n i).2 ≤ 9999 := tkS_num.1 h
theorem tkT_nam {tx : Nat → Int} {n i : Nat} (h : (tkT tx n i).1 = 2) : 0 ≤ (tkT tx n i).2 ∧ (tkT tx n i).2 ≤ 531440 := tkS_num.2 h
theorem psS_up {tx : Nat → Int} {n i : Nat} (h : i ≤ psS tx n i) (hk : (tkT tx n i).1 ≠ 0) : i + 1 ≤ psS tx n (i + 1) := by
  have := (tkS_nx tx (psS_le tx n i)).2.2.1 hk
  show i + 1 ≤ (tkS tx n (psS tx n i)).2.2.2
  omega

