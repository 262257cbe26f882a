/-! THE CLASS: the depths of the grammar; what `read` leaves -/
theorem pLi_none (T : Nat → Int × Int) (op : Int) (i : Nat) : ∃ f, pLi none T op i = .inl f := by
  have hj : ∀ num i, ∃ f, pLj none T op num i = .inl f := fun num i => by
    unfold pLj
    by_cases h : T i = (3, 40)
    · rw [if_pos h]; exact ⟨i, rfl⟩
    · rw [if_neg h]; exact ⟨i, rfl⟩
  unfold pLi
  by_cases h : op = 7 ∨ op = 8
  · rw [if_pos h]
    by_cases h1 : (T i).1 = 1
    · rw [if_pos h1]; exact hj _ _
    · rw [if_neg h1]; exact ⟨i, rfl⟩
  · rw [if_neg h]; exact hj _ _
theorem KCA.n0 {tx : Nat → Int} {n W b B r h h2 D : Nat} {dp : Int} (q : KCA tx n W b B r h D dp none) : KCA tx n W b B r h2 D dp none := by
  intro i k σ op a1 a2 a3 a4 a5
  refine (q i k σ op a1 a2 a3 a4 a5).mono ?_
  rintro res u ⟨r1, z⟩
  refine ⟨r1, ?_⟩
  obtain ⟨f, hf⟩ := pLi_none (tkT tx n) op i
  rw [hf] at z ⊢
  exact z
theorem cc1_sumD {tx : Nat → Int} {n W b B r h D : Nat} {dp : Int} (hdp : dp ≤ 8) {one : Nat → PR} (hone : ∀ D2, D ≤ D2 → KOK tx n W b B r 0 h D2 mX1_readPart dp one) (hD : 2 ≤ D) {D3 : Nat} (h3 : D + 2 ≤ D3) : KOK tx n W b B r 0 (h + 2) D3 mX1_readSum dp (pSW one (tkT tx n)) := by
  obtain ⟨d, rfl⟩ : ∃ d, D3 = d + 2 := ⟨D3 - 2, by omega⟩
  exact cc1_readSum (by omega) hdp (cc1_readProduct (by omega) (hone d (by omega)))
theorem cc1_pO {tx : Nat → Int} {n W b B r : Nat} : ∀ (f : Nat), f ≤ 8 → ∀ D, 4 * f + 4 ≤ D → KOK tx n W b B r 0 (12 * f + 1) D mX1_readPart (8 - (f : Int)) (pO (tkT tx n) f) := by
  intro f
  induction f with
  | zero =>
    intro _ D hD
    obtain ⟨d, rfl⟩ : ∃ d, D = d + 2 := ⟨D - 2, by omega⟩
    have hc : KCA tx n W b B r 10 (d + 1) (8 - ((0 : Nat) : Int)) none := cc1_readCall (h := 0) (by omega) (by omega) ⟨by omega, by omega⟩ (Or.inl ⟨rfl, by omega⟩)
    exact cc1_readPart (h := 1) (h0 := 1) hD ⟨by omega, by omega⟩ ⟨by omega, by omega⟩ (Or.inl ⟨rfl, by omega⟩) hc.n0
  | succ f ih =>
    intro hf D hD
    obtain ⟨d, rfl⟩ : ∃ d, D = d + 2 := ⟨D - 2, by omega⟩
    have e : (8 - ((f + 1 : Nat) : Int)) + 1 = 8 - (f : Int) := by omega
    have hs : ∀ D3, (4 * f + 4) + 2 ≤ D3 → KOK tx n W b B r 0 (12 * f + 1 + 2) D3 mX1_readSum ((8 - ((f + 1 : Nat) : Int)) + 1) (pSW (pO (tkT tx n) f) (tkT tx n)) := fun D3 h3 => by
      rw [e]
      exact cc1_sumD (by omega) (ih (by omega)) (by omega) h3
    have hc : KCA tx n W b B r (12 * (f + 1) + 1) (d + 1) (8 - ((f + 1 : Nat) : Int)) (some (pSW (pO (tkT tx n) f) (tkT tx n))) := cc1_readCall (h := 12 * f + 1 + 2) (by omega) (by omega) ⟨by omega, by omega⟩ (Or.inr ⟨_, rfl, by omega, hs d (by omega)⟩)
    exact cc1_readPart (h := 12 * (f + 1) + 1) (h0 := 12 * f + 1 + 2) (by omega) ⟨by omega, by omega⟩ ⟨by omega, by omega⟩ (Or.inr ⟨_, rfl, by omega, hs (d + 1) (by omega)⟩) hc
theorem cc1_sum0 {tx : Nat → Int} {n W b B r D : Nat} (hD : 38 ≤ D) : KOK tx n W b B r 0 99 D mX1_readSum 0 (pS (tkT tx n) 8) := by
  have h := cc1_pO (tx := tx) (n := n) (W := W) (b := b) (B := B) (r := r) 8 (by omega)
  rw [show (8 : Int) - ((8 : Nat) : Int) = 0 by decide] at h
  exact cc1_sumD (by decide) h (by omega) (by omega)
/-! what reading a text may change -/
def rdP (B o j : Nat) : Prop := (o = 4 ∧ 6 ≤ j ∧ j ≤ 9) ∨ (10 ≤ o ∧ o ≤ 12) ∨ (o = 6 + B ∧ j ≤ 2) ∨ (19 + 9 * B ≤ o ∧ o ≤ 21 + 9 * B) ∨ (25 + 9 * B ≤ o ∧ o ≤ 27 + 9 * B)
def RF (B : Nat) (σ s : am_HS) : Prop := s.2 = σ.2 ∧ ∀ o j, ¬ rdP B o j → hI s o j = hI σ o j
theorem RF.rf (B : Nat) (σ : am_HS) : RF B σ σ := ⟨rfl, fun _ _ _ => rfl⟩
theorem RF.tr {B : Nat} {σ s u : am_HS} (h : RF B σ s) (h2 : RF B s u) : RF B σ u := ⟨h2.1.trans h.1, fun o j q => (h2.2 o j q).trans (h.2 o j q)⟩
theorem RF.u {B : Nat} {σ s : am_HS} (h : RF B σ s) {o j : Nat} {x : Int} (hj : rdP B o j) : RF B σ (uI s o j x) := ⟨h.1, fun a b q => (hI_uI_n (fun z => q (by rw [z.1, z.2]; exact hj))).trans (h.2 a b q)⟩
theorem CF.fr {B k : Nat} {σ s : am_HS} (h : CF B k σ s) : RF B σ s := ⟨h.1, fun o j q => h.2 o j (fun z => q (by unfold cfP at z; unfold rdP; omega))⟩
theorem FrT.fr {B : Nat} {σ s : am_HS} (h : FrT σ s) : RF B σ s := ⟨h.1, fun o j q => h.2 o j (fun z => q (by unfold rdP; omega))⟩
/-- the state between two rules: N were begun -/
def RX (tx : Nat → Int) (n W b B N : Nat) (s : am_HS) : Prop := s.2.2 = cH b ∧ hI s (6 + B) 0 = (N : Int) ∧ TkR tx n (W + 1) s ∧ (b + B = 1 ∧ N ≤ 12 ∧ W ≤ 600) ∧ (tkT tx n W).1 = 0
/-- a rule that was read -/
def RuC (B n : Nat) (tx : Nat → Int) (a : RU) (nm : Int) (lo hi : Nat) (s : am_HS) : Prop := nm = a.1 ∧ lo < hi ∧ Cd (cdT s B) 0 99 lo hi [(a.2.1, false)] ∧ NmP (tdC (cdT s B)) (tkT tx n) lo hi a.2.2.1 a.2.2.2
/-- the rules that were read -/
def RLs (B n : Nat) (tx : Nat → Int) (acc : List RU) (bf : Nat → Nat) (s : am_HS) : Prop := acc.length ≤ 12 ∧ bf 0 = 0 ∧ (∀ k a, acc[k]? = some a → hI s (20 + 9 * B) k = (bf k : Int) ∧ hI s (21 + 9 * B) k = (bf (k + 1) : Int) ∧ RuC B n tx a (hI s (19 + 9 * B) k) (bf k) (bf (k + 1)) s) ∧ (hI s (6 + B) 1 = 0 ∨ hI s (6 + B) 1 = 1) ∧ (hI s (6 + B) 1 ≠ 0 ↔ LsR (tkT tx n) acc)
theorem RuC.congr {B n : Nat} {tx : Nat → Int} {a : RU} {nm : Int} {lo hi : Nat} {s u : am_HS} (h : RuC B n tx a nm lo hi s) (hc : ∀ x, lo ≤ x → x < hi → cdT u B x = cdT s B x) : RuC B n tx a nm lo hi u := by
  obtain ⟨h1, h2, h3, h4⟩ := h
  exact ⟨h1, h2, h3.congr hc, h4.congr (fun x x1 x2 => ⟨congrArg (fun y => y.1) (hc x x1 x2), congrArg (fun y => y.2.1) (hc x x1 x2)⟩)⟩
/-- what `read` answers and leaves -/
def RdQ (B n : Nat) (tx : Nat → Int) (σ : am_HS) (res : Nat ⊕ List RU) (z : Int) (s : am_HS) : Prop := RF B σ s ∧ match res with
  | .inl g => z = (plT tx n g : Int)
  | .inr acc => z < 0 ∧ 0 < acc.length ∧ ∃ bf, RLs B n tx acc bf s ∧ hI s (6 + B) 0 = (acc.length : Int) ∧ hI s (6 + B) 2 = (bf acc.length : Int) ∧ bf acc.length ≤ 1200
theorem cc1_readF {d : Nat} (hd : 39 ≤ d) {B n g : Nat} {tx : Nat → Int} {σ : am_HS} {a1 x : Int} (hx : 0 ≤ x ∧ x ≤ 13) (s : am_HS) (hF : hI s 4 9 = (plT tx n g : Int)) (hσ : RF B σ s) : am_Go lc d 1 3 1 cX1_read 24 [some (vR (some 4)), some (vI a1), some (vI x)] [] s (qI fun z u => RdQ B n tx σ (.inl g) z u) := by
  refine g_iload_n dX1_read_24 rfl ?_
  refine g_bipush dX1_read_25 (by decide) ?_
  refine g_icmp_gt (tgt := 119) dX1_read_27 (by decide) (fun c27 => ?_) (fun c27 => ?_)
  · refine g_aload_n dX1_read_119 rfl ?_
    refine g_getI dX1_read_120 tf_1_32 rfl rfl ?_
    refine g_ireturn dX1_read_123 (Or.inl rfl) ⟨_, rfl, ?_⟩
    exact ⟨hσ, hF⟩
  · refine g_aload_n dX1_read_30 rfl ?_
    refine g_getI dX1_read_31 tf_1_32 rfl rfl ?_
    refine g_if_ge (tgt := 119) dX1_read_34 (by decide) (fun c34 => ?_) (fun c34 => ?_)
    · refine g_aload_n dX1_read_119 rfl ?_
      refine g_getI dX1_read_120 tf_1_32 rfl rfl ?_
      refine g_ireturn dX1_read_123 (Or.inl rfl) ⟨_, rfl, ?_⟩
      exact ⟨hσ, hF⟩
    · exfalso; omega
theorem cc1_readF2 {d : Nat} (hd : 39 ≤ d) {B n g : Nat} {tx : Nat → Int} {σ : am_HS} {a1 x : Int} (hx : 0 ≤ x ∧ x ≤ 12) (s : am_HS) (hF : hI s 4 9 = (plT tx n g : Int)) (hσ : RF B σ s) : am_Go lc d 1 3 1 cX1_read 107 [some (vR (some 4)), some (vI a1), some (vI x)] [] s (qI fun z u => RdQ B n tx σ (.inl g) z u) := by
  have hft : 0 ≤ hI s 4 9 := by omega
  refine g_aload_n dX1_read_107 rfl ?_
  refine g_bipush dX1_read_108 (by decide) ?_
  refine g_callvV dX1_read_110 tm_1_65 rfl ⟨rfl, rfl⟩ rfl (Nat.le_of_ble_eq_true rfl) (cc1_takeN (by omega) s hft _) (fun s110 h110 => ?_)
  rw [h110]
  refine g_iinc dX1_read_113 (by decide) rfl ⟨by omega, by omega⟩ rfl rfl ?_
  refine g_goto (tgt := 24) dX1_read_116 (by decide) ?_
  exact cc1_readF hd (by omega) s hF hσ
theorem cc1_readF3 {d : Nat} (hd : 39 ≤ d) {B n g : Nat} {tx : Nat → Int} {σ : am_HS} {a1 x : Int} (hx : 0 ≤ x ∧ x ≤ 12) (s : am_HS) (hF : hI s 4 9 = (plT tx n g : Int)) (hσ : RF B σ s) : am_Go lc d 1 3 1 cX1_read 102 [some (vR (some 4)), some (vI a1), some (vI x)] [] s (qI fun z u => RdQ B n tx σ (.inl g) z u) := by
  have hft : 0 ≤ hI s 4 9 := by omega
  refine g_aload_n dX1_read_102 rfl ?_
  refine g_iconst dX1_read_103 ⟨by decide, by decide⟩ ?_
  refine g_callvV dX1_read_104 tm_1_68 rfl ⟨rfl, rfl⟩ rfl (Nat.le_of_ble_eq_true rfl) (cc1_sumN (by omega) s hft _) (fun s104 h104 => ?_)
  rw [h104]
  exact cc1_readF2 hd hx s hF hσ
theorem cc1_readF4 {d : Nat} (hd : 39 ≤ d) {B n g : Nat} {tx : Nat → Int} {σ : am_HS} {a1 x : Int} (hx : 0 ≤ x ∧ x ≤ 12) (s : am_HS) (hF : hI s 4 9 = (plT tx n g : Int)) (hσ : RF B σ s) : am_Go lc d 1 3 1 cX1_read 89 [some (vR (some 4)), some (vI a1), some (vI x)] [] s (qI fun z u => RdQ B n tx σ (.inl g) z u) := by
  have hft : 0 ≤ hI s 4 9 := by omega
  refine g_aload_n dX1_read_89 rfl ?_
  refine g_sipush dX1_read_90 (by decide) ?_
  refine g_callvV dX1_read_93 tm_1_65 rfl ⟨rfl, rfl⟩ rfl (Nat.le_of_ble_eq_true rfl) (cc1_takeN (by omega) s hft _) (fun s93 h93 => ?_)
  rw [h93]
  refine g_aload_n dX1_read_96 rfl ?_
  refine g_bipush dX1_read_97 (by decide) ?_
  refine g_callvV dX1_read_99 tm_1_65 rfl ⟨rfl, rfl⟩ rfl (Nat.le_of_ble_eq_true rfl) (cc1_takeN (by omega) s hft _) (fun s99 h99 => ?_)
  rw [h99]
  exact cc1_readF3 hd hx s hF hσ
