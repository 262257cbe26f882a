/-! WORDS OF A TEXT; the reference's 'reads' -/
def clS (c : Int) : Nat := if 48 ≤ c ∧ c ≤ 57 then 1 else if 97 ≤ c ∧ c ≤ 122 then 2 else 0
def skS (tx : Nat → Int) : Nat → Nat → Nat
  | 0, a => a
  | m + 1, a => if tx a = 32 then skS tx m (a + 1) else a
def rnS (tx : Nat → Int) (k : Nat) : Nat → Nat → Nat
  | 0, a => a
  | m + 1, a => if clS (tx a) = k then rnS tx k m (a + 1) else a
def wdS (tx : Nat → Int) (k a : Nat) : Nat → Int
  | 0 => 0
  | j + 1 => if k = 1 then 10 * wdS tx k a j + tx (a + j) - 48 else 27 * wdS tx k a j + tx (a + j) - 96
def sgS (c : Int) : Prop := 40 ≤ c ∧ c ≤ 45 ∨ c = 47 ∨ c = 59 ∨ c = 61
/-- a word from a byte on: its kind (0 end, 1 digits, 2 letters, 3 sign, 4 none), its number, its place, where the next one is looked for -/
def tkS (tx : Nat → Int) (n a : Nat) : Int × Int × Nat × Nat :=
  if skS tx (n - a) a = n then (0, 0, n, n)
  else if clS (tx (skS tx (n - a) a)) = 0 then (if 40 ≤ tx (skS tx (n - a) a) ∧ tx (skS tx (n - a) a) ≤ 45 ∨ tx (skS tx (n - a) a) = 47 ∨ tx (skS tx (n - a) a) = 59 ∨ tx (skS tx (n - a) a) = 61 then 3 else 4, tx (skS tx (n - a) a), skS tx (n - a) a, skS tx (n - a) a + 1)
  else if skS tx (n - a) a + 4 < rnS tx (clS (tx (skS tx (n - a) a))) (n - skS tx (n - a) a) (skS tx (n - a) a) then (4, 0, skS tx (n - a) a, rnS tx (clS (tx (skS tx (n - a) a))) (n - skS tx (n - a) a) (skS tx (n - a) a))
  else ((clS (tx (skS tx (n - a) a)) : Int), wdS tx (clS (tx (skS tx (n - a) a))) (skS tx (n - a) a) (rnS tx (clS (tx (skS tx (n - a) a))) (n - skS tx (n - a) a) (skS tx (n - a) a) - skS tx (n - a) a), skS tx (n - a) a, rnS tx (clS (tx (skS tx (n - a) a))) (n - skS tx (n - a) a) (skS tx (n - a) a))
def psS (tx : Nat → Int) (n : Nat) : Nat → Nat
  | 0 => 0
  | i + 1 => (tkS tx n (psS tx n i)).2.2.2
theorem skS_r (tx : Nat → Int) : ∀ m a, a ≤ skS tx m a ∧ skS tx m a ≤ a + m
  | 0, a => ⟨Nat.le_refl _, Nat.le_refl _⟩
  | m + 1, a => by
    have := skS_r tx m (a + 1)
    unfold skS
    split <;> omega
theorem rnS_r (tx : Nat → Int) (k : Nat) : ∀ m a, a ≤ rnS tx k m a ∧ rnS tx k m a ≤ a + m
  | 0, a => ⟨Nat.le_refl _, Nat.le_refl _⟩
  | m + 1, a => by
    have := rnS_r tx k m (a + 1)
    unfold rnS
    split <;> omega
theorem clS_r (c : Int) : clS c = 0 ∧ ¬ (48 ≤ c ∧ c ≤ 57) ∧ ¬ (97 ≤ c ∧ c ≤ 122) ∨ clS c = 1 ∧ 48 ≤ c ∧ c ≤ 57 ∨ clS c = 2 ∧ 97 ≤ c ∧ c ≤ 122 := by
  unfold clS
  split
  · exact Or.inr (Or.inl ⟨rfl, by omega⟩)
  · split
    · exact Or.inr (Or.inr ⟨rfl, by omega⟩)
    · exact Or.inl ⟨rfl, by omega, by omega⟩
theorem wdS_r {tx : Nat → Int} {k a : Nat} (hk : k = 1 ∨ k = 2) : ∀ j, (∀ i, i < j → clS (tx (a + i)) = k) → 0 ≤ wdS tx k a j ∧ wdS tx k a j < ((27 ^ j : Nat) : Int)
  | 0, _ => ⟨Int.le_refl _, by show (0 : Int) < 1; decide⟩
  | j + 1, h => by
    have ih := wdS_r hk j (fun i hi => h i (by omega))
    have hj := h j (by omega)
    have hc := clS_r (tx (a + j))
    have e : ((27 ^ (j + 1) : Nat) : Int) = 27 * ((27 ^ j : Nat) : Int) := by rw [Nat.pow_succ]; omega
    unfold wdS
    rw [e]
    split <;> omega
theorem tkS_nx (tx : Nat → Int) {n a : Nat} (ha : a ≤ n) : a ≤ (tkS tx n a).2.2.2 ∧ (tkS tx n a).2.2.2 ≤ n ∧ ((tkS tx n a).1 ≠ 0 → a < (tkS tx n a).2.2.2) ∧ a ≤ (tkS tx n a).2.2.1 ∧ (tkS tx n a).2.2.1 ≤ n := by
  have h1 := skS_r tx (n - a) a
  unfold tkS
  split
  · exact ⟨ha, Nat.le_refl _, fun h => absurd rfl h, ha, Nat.le_refl _⟩
  · split
    · refine ⟨?_, ?_, fun _ => ?_, ?_, ?_⟩ <;> dsimp only <;> omega
    · rename_i h2 h3
      have h4 := rnS_r tx (clS (tx (skS tx (n - a) a))) (n - skS tx (n - a) a) (skS tx (n - a) a)
      have h5 : skS tx (n - a) a < rnS tx (clS (tx (skS tx (n - a) a))) (n - skS tx (n - a) a) (skS tx (n - a) a) := by
        obtain ⟨m, hm⟩ : ∃ m, n - skS tx (n - a) a = m + 1 := ⟨n - skS tx (n - a) a - 1, by omega⟩
        rw [hm]
        unfold rnS
        rw [if_pos rfl]
        have := rnS_r tx (clS (tx (skS tx (n - a) a))) m (skS tx (n - a) a + 1)
        omega
      split
      · refine ⟨?_, ?_, fun _ => ?_, ?_, ?_⟩ <;> dsimp only <;> omega
      · refine ⟨?_, ?_, fun _ => ?_, ?_, ?_⟩ <;> dsimp only <;> omega
theorem psS_le (tx : Nat → Int) (n : Nat) : ∀ i, psS tx n i ≤ n
  | 0 => Nat.zero_le _
  | i + 1 => (tkS_nx tx (psS_le tx n i)).2.1
theorem txb {σ : am_HS} (hb : rgM σ) (j : Nat) : 0 ≤ hI σ 16 j ∧ hI σ 16 j ≤ 255 := hb 16 j
def FrW (σ s : am_HS) : Prop := s.2 = σ.2 ∧ ∀ o j, ¬ (o = 0 ∧ 24 ≤ j ∧ j ≤ 27) → hI s o j = hI σ o j
theorem FrW.rf (σ : am_HS) : FrW σ σ := ⟨rfl, fun _ _ _ => rfl⟩
theorem FrW.u {σ s : am_HS} (h : FrW σ s) {j : Nat} {x : Int} (hj : 24 ≤ j ∧ j ≤ 27) : FrW σ (uI s 0 j x) := ⟨h.1, fun a b k => (hI_uI_n (by omega)).trans (h.2 a b k)⟩
theorem FrW.rg {σ s : am_HS} (h : FrW σ s) (hb : rgM σ) : rgM s := by
  intro o j
  by_cases e : o = 0 ∧ 24 ≤ j ∧ j ≤ 27
  · have hr := hI_r s o j
    unfold rI at hr
    rw [e.1] at hr
    rw [e.1]
    exact ⟨by show (-2147483648 : Int) ≤ _; omega, by show _ ≤ (2147483647 : Int); omega⟩
  · rw [h.2 o j e]; exact hb o j
/-- behind 'reads': a word is looked at -/
def WdM (tk : Int × Int × Nat × Nat) (s : am_HS) : Prop := hI s 0 24 = tk.1 ∧ hI s 0 25 = (tk.2.2.1 : Int) ∧ (tk.1 ≠ 4 → hI s 0 26 = tk.2.1 ∧ hI s 0 27 = (tk.2.2.2 : Int))

theorem cm_readsA {d : Nat} (hD : 1 ≤ d) (σ : am_HS) (hf0 : σ.2.2 = mH) (n : Nat) (hn : hI σ 0 28 = (n : Int)) (hn6 : n ≤ 600) (Q : Option am_V → am_HS → Prop) (o1 o2 : Option am_V) (b : Nat) (hk : ∀ s, FrW σ s → hI s 0 27 = (b : Int) → am_Go lm d 7 3 0 cX7_reads 38 [some (vR (some 0)), o1, o2] [] s Q) : ∀ (m a : Nat), a + m = n → skS (fun j => hI σ 16 j) m a = b → ∀ s, FrW σ s → hI s 0 27 = (a : Int) → am_Go lm d 7 3 0 cX7_reads 0 [some (vR (some 0)), o1, o2] [] s Q := by
  intro m
  induction m with
  | zero =>
    intro a ha hb s fr hat
    have hf : s.2.2 = mH := by rw [fr.1]; exact hf0
    have h28 : hI s 0 28 = (n : Int) := (fr.2 0 28 (by omega)).trans hn
    refine g_aload_n dX7_reads_0 rfl ?_
    refine g_getI dX7_reads_1 tf_7_169 rfl rfl ?_
    refine g_aload_n dX7_reads_4 rfl ?_
    refine g_getI dX7_reads_5 tf_7_172 rfl rfl ?_
    refine g_icmp_ge (tgt := 38) dX7_reads_8 (by decide) (fun c8 => ?_) (fun c8 => ?_)
    · exact hk s fr (by rw [hat]; unfold skS at hb; omega)
    · exfalso; omega
  | succ m ih =>
    intro a ha hb s fr hat
    have hf : s.2.2 = mH := by rw [fr.1]; exact hf0
    have h28 : hI s 0 28 = (n : Int) := (fr.2 0 28 (by omega)).trans hn
    have h16 : hI s 16 a = hI σ 16 a := fr.2 16 a (by omega)
    unfold skS at hb
    refine g_aload_n dX7_reads_0 rfl ?_
    refine g_getI dX7_reads_1 tf_7_169 rfl rfl ?_
    refine g_aload_n dX7_reads_4 rfl ?_
    refine g_getI dX7_reads_5 tf_7_172 rfl rfl ?_
    refine g_icmp_ge (tgt := 38) dX7_reads_8 (by decide) (fun c8 => ?_) (fun c8 => ?_)
    · exfalso; omega
    · refine g_aload_n dX7_reads_11 rfl ?_
      refine g_getA dX7_reads_12 tf_7_56 rfl rfl (mrf hf rfl) ?_
      refine g_aload_n dX7_reads_15 rfl ?_
      refine g_getI dX7_reads_16 tf_7_169 rfl rfl ?_
      refine g_ialdN (a) dX7_reads_19 rfl (by omega) (by omega) ?_
      refine g_bipush dX7_reads_20 (by decide) ?_
      refine g_icmp_ne (tgt := 38) dX7_reads_22 (by decide) (fun c22 => ?_) (fun c22 => ?_)
      · rw [if_neg (by omega)] at hb
        exact hk s fr (by rw [hat, hb])
      · rw [if_pos (by omega)] at hb
        refine g_aload_n dX7_reads_25 rfl ?_
        refine g_dup dX7_reads_26 rfl ?_
        refine g_getI dX7_reads_27 tf_7_169 rfl rfl ?_
        refine g_iconst dX7_reads_30 ⟨by decide, by decide⟩ ?_
        refine g_iadd dX7_reads_31 rfl ⟨by omega, by omega⟩ ?_
        refine g_putI dX7_reads_32 tf_7_169 rfl rfl rfl ?_
        refine g_goto (tgt := 0) dX7_reads_35 (by decide) ?_
        exact ih (a + 1) (by omega) hb _ (fr.u (by omega)) (by rw [hI_uI_e ⟨by omega, by omega⟩, hat]; omega)
/-- within a word of digits or letters -/
def RnM (σ : am_HS) (n b k e : Nat) (s : am_HS) : Prop := hI s 0 24 = (if e ≤ b + 4 then (k : Int) else 4) ∧ hI s 0 25 = (b : Int) ∧ (e ≤ b + 4 → hI s 0 26 = wdS (fun j => hI σ 16 j) k b (e - b) ∧ hI s 0 27 = (e : Int))
theorem cm_readsB {d : Nat} (hD : 1 ≤ d) (σ : am_HS) (hf0 : σ.2.2 = mH) (hbb : rgM σ) (n : Nat) (hn : hI σ 0 28 = (n : Int)) (hn6 : n ≤ 600) (b k e : Nat) (i2 : Int) (hk : k = 1 ∧ i2 = 1 ∨ k = 2 ∧ i2 = 0) (o1 : Option am_V) : ∀ (m a : Nat), a + m = n → b ≤ a → a ≤ b + 5 → rnS (fun j => hI σ 16 j) k m a = e → (∀ i, i < a - b → clS (hI σ 16 (b + i)) = k) → ∀ s, FrW σ s → hI s 0 27 = (a : Int) → hI s 0 25 = (b : Int) → hI s 0 24 = (k : Int) → hI s 0 26 = wdS (fun j => hI σ 16 j) k b (a - b) → am_Go lm d 7 3 0 cX7_reads 110 [some (vR (some 0)), o1, some (vI i2)] [] s (qV fun s => FrW σ s ∧ RnM σ n b k e s) := by
  have tail : ∀ (a : Nat) s, a ≤ n → b ≤ a → a ≤ b + 5 → FrW σ s → hI s 0 27 = (a : Int) → hI s 0 25 = (b : Int) → hI s 0 24 = (k : Int) → hI s 0 26 = wdS (fun j => hI σ 16 j) k b (a - b) → (e = a ∨ a = b + 5 ∧ b + 5 ≤ e) → am_Go lm d 7 3 0 cX7_reads 235 [some (vR (some 0)), o1, some (vI i2)] [] s (qV fun s => FrW σ s ∧ RnM σ n b k e s) := by
    intro a s h0 h1 h2 fr h27 h25 h24 h26 he
    have hf : s.2.2 = mH := by rw [fr.1]; exact hf0
    refine g_aload_n dX7_reads_235 rfl ?_
    refine g_getI dX7_reads_236 tf_7_169 rfl rfl ?_
    refine g_aload_n dX7_reads_239 rfl ?_
    refine g_getI dX7_reads_240 tf_7_175 rfl rfl ?_
    refine g_isub dX7_reads_243 rfl ⟨by omega, by omega⟩ ?_
    refine g_iconst dX7_reads_244 ⟨by decide, by decide⟩ ?_
    refine g_icmp_le (tgt := 253) dX7_reads_245 (by decide) (fun c245 => ?_) (fun c245 => ?_)
    · refine g_return dX7_reads_253 rfl ⟨rfl, ?_⟩
      first
        | (refine ⟨fr.u (by omega), ?_, (hI_uI_n (by omega)).trans h25, fun h => by exfalso; omega⟩
           rw [if_neg (by omega)]
           exact hI_uI_e ⟨by omega, by omega⟩)
        | (refine ⟨fr, ?_, h25, fun h => ?_⟩
           · rw [if_pos (by omega)]
             exact h24
           · have e1 : e = a := by omega
             rw [e1]
             exact ⟨h26, h27⟩)
    · refine g_aload_n dX7_reads_248 rfl ?_
      refine g_iconst dX7_reads_249 ⟨by decide, by decide⟩ ?_
      refine g_putI dX7_reads_250 tf_7_181 rfl rfl rfl ?_
      refine g_return dX7_reads_253 rfl ⟨rfl, ?_⟩
      first
        | (refine ⟨fr.u (by omega), ?_, (hI_uI_n (by omega)).trans h25, fun h => by exfalso; omega⟩
           rw [if_neg (by omega)]
           exact hI_uI_e ⟨by omega, by omega⟩)
        | (refine ⟨fr, ?_, h25, fun h => ?_⟩
           · rw [if_pos (by omega)]
             exact h24
           · have e1 : e = a := by omega
             rw [e1]
             exact ⟨h26, h27⟩)
  intro m
  induction m with
  | zero =>
    intro a ha h1 h2 he hcl s fr h27 h25 h24 h26
    have hf : s.2.2 = mH := by rw [fr.1]; exact hf0
    have h28 : hI s 0 28 = (n : Int) := (fr.2 0 28 (by omega)).trans hn
    refine g_aload_n dX7_reads_110 rfl ?_
    refine g_getI dX7_reads_111 tf_7_169 rfl rfl ?_
    refine g_aload_n dX7_reads_114 rfl ?_
    refine g_getI dX7_reads_115 tf_7_172 rfl rfl ?_
    refine g_icmp_ge (tgt := 235) dX7_reads_118 (by decide) (fun c118 => ?_) (fun c118 => ?_)
    · exact tail a s (by omega) h1 h2 fr h27 h25 h24 h26 (Or.inl he.symm)
    · exfalso; omega
  | succ m ih =>
    intro a ha h1 h2 he hcl s fr h27 h25 h24 h26
    have hf : s.2.2 = mH := by rw [fr.1]; exact hf0
    have h28 : hI s 0 28 = (n : Int) := (fr.2 0 28 (by omega)).trans hn
    have h16 : hI s 16 a = hI σ 16 a := fr.2 16 a (by omega)
    have hx := txb hbb a
    have hc := clS_r (hI σ 16 a)
    unfold rnS at he
    have hw := wdS_r (tx := fun j => hI σ 16 j) (k := k) (a := b) (by omega) (a - b) hcl
    refine g_aload_n dX7_reads_110 rfl ?_
    refine g_getI dX7_reads_111 tf_7_169 rfl rfl ?_
    refine g_aload_n dX7_reads_114 rfl ?_
    refine g_getI dX7_reads_115 tf_7_172 rfl rfl ?_
    refine g_icmp_ge (tgt := 235) dX7_reads_118 (by decide) (fun c118 => ?_) (fun c118 => ?_)
    · exfalso; omega
    · refine g_iload_n dX7_reads_121 rfl ?_
      refine g_if_eq (tgt := 143) dX7_reads_122 (by decide) (fun c122 => ?_) (fun c122 => ?_)
      · refine g_aload_n dX7_reads_143 rfl ?_
        refine g_getA dX7_reads_144 tf_7_56 rfl rfl (mrf hf rfl) ?_
        refine g_aload_n dX7_reads_147 rfl ?_
        refine g_getI dX7_reads_148 tf_7_169 rfl rfl ?_
        refine g_ialdN (a) dX7_reads_151 rfl (by omega) (by omega) ?_
        rw [h16]
        refine g_callsI dX7_reads_152 tm_7_187 rfl ⟨Nat.le_of_ble_eq_true rfl, rfl, rfl⟩ (Nat.le_of_ble_eq_true rfl) (cm_isLetter (by omega) _ _) (fun z152 s152 h152 => ?_)
        obtain ⟨h152, e152⟩ := h152
        obtain rfl := e152.symm
        refine g_if_eq (tgt := 235) dX7_reads_155 (by decide) (fun c155 => ?_) (fun c155 => ?_)
        · first
            | exact tail a s (by omega) h1 h2 fr h27 h25 h24 h26 (Or.inl (by rw [if_neg (by omega)] at he; exact he.symm))
            | exact tail a s (by omega) h1 h2 fr h27 h25 h24 h26 (Or.inr ⟨by omega, by
                have hck : clS (hI σ 16 a) = k := by rcases hc with q | q | q <;> omega
                rw [if_pos hck] at he
                have := rnS_r (fun j => hI σ 16 j) k m (a + 1)
                omega⟩)
        · refine g_aload_n dX7_reads_158 rfl ?_
          refine g_getI dX7_reads_159 tf_7_169 rfl rfl ?_
          refine g_aload_n dX7_reads_162 rfl ?_
          refine g_getI dX7_reads_163 tf_7_175 rfl rfl ?_
          refine g_isub dX7_reads_166 rfl ⟨by omega, by omega⟩ ?_
          refine g_iconst dX7_reads_167 ⟨by decide, by decide⟩ ?_
          refine g_icmp_ge (tgt := 235) dX7_reads_168 (by decide) (fun c168 => ?_) (fun c168 => ?_)
          · first
              | exact tail a s (by omega) h1 h2 fr h27 h25 h24 h26 (Or.inl (by rw [if_neg (by omega)] at he; exact he.symm))
              | exact tail a s (by omega) h1 h2 fr h27 h25 h24 h26 (Or.inr ⟨by omega, by
                  have hck : clS (hI σ 16 a) = k := by rcases hc with q | q | q <;> omega
                  rw [if_pos hck] at he
                  have := rnS_r (fun j => hI σ 16 j) k m (a + 1)
                  omega⟩)
          · have hck : clS (hI σ 16 a) = k := by rcases hc with q | q | q <;> omega
            rw [if_pos hck] at he
            have hp : a - b ≤ 4 := by omega
            have hp27 := Nat.pow_le_pow_right (n := 27) (by decide) hp
            have hpv : (27 : Nat) ^ 4 = 531441 := by decide
            have hcl2 : ∀ i, i < a + 1 - b → clS (hI σ 16 (b + i)) = k := by
              intro i hi
              rcases Nat.lt_or_ge i (a - b) with q | q
              · exact hcl i q
              · rw [show b + i = a by omega]; exact hck
            have hwd : wdS (fun j => hI σ 16 j) k b (a + 1 - b) = if k = 1 then 10 * wdS (fun j => hI σ 16 j) k b (a - b) + hI σ 16 a - 48 else 27 * wdS (fun j => hI σ 16 j) k b (a - b) + hI σ 16 a - 96 := by
              rw [show a + 1 - b = (a - b) + 1 by omega]
              show (if k = 1 then 10 * wdS (fun j => hI σ 16 j) k b (a - b) + hI σ 16 (b + (a - b)) - 48 else 27 * wdS (fun j => hI σ 16 j) k b (a - b) + hI σ 16 (b + (a - b)) - 96) = _
              rw [show b + (a - b) = a by omega]
            refine g_aload_n dX7_reads_171 rfl ?_
            refine g_iload_n dX7_reads_172 rfl ?_
            refine g_if_eq (tgt := 199) dX7_reads_173 (by decide) (fun c173 => ?_) (fun c173 => ?_)
            · refine g_bipush dX7_reads_199 (by decide) ?_
              refine g_aload_n dX7_reads_201 rfl ?_
              refine g_getI dX7_reads_202 tf_7_178 rfl rfl ?_
              rw [h26]
              refine g_imul dX7_reads_205 rfl ⟨by omega, by omega⟩ ?_
              refine g_aload_n dX7_reads_206 rfl ?_
              refine g_getA dX7_reads_207 tf_7_56 rfl rfl (mrf hf rfl) ?_
              refine g_aload_n dX7_reads_210 rfl ?_
              refine g_getI dX7_reads_211 tf_7_169 rfl rfl ?_
              refine g_ialdN (a) dX7_reads_214 rfl (by omega) (by omega) ?_
              rw [h16]
              refine g_iadd dX7_reads_215 rfl ⟨by omega, by omega⟩ ?_
              refine g_bipush dX7_reads_216 (by decide) ?_
              refine g_isub dX7_reads_218 rfl ⟨by omega, by omega⟩ ?_
              refine g_putI dX7_reads_219 tf_7_178 rfl rfl rfl ?_
              refine g_aload_n dX7_reads_222 rfl ?_
              refine g_dup dX7_reads_223 rfl ?_
              refine g_getI dX7_reads_224 tf_7_169 rfl rfl ?_
              rw [hI_uI_n (by omega), h27]
              refine g_iconst dX7_reads_227 ⟨by decide, by decide⟩ ?_
              refine g_iadd dX7_reads_228 rfl ⟨by omega, by omega⟩ ?_
              refine g_putI dX7_reads_229 tf_7_169 rfl rfl rfl ?_
              refine g_goto (tgt := 110) dX7_reads_232 (by decide) ?_
              refine ih (a + 1) (by omega) (by omega) (by omega) he hcl2 _ ((fr.u (by omega)).u (by omega)) ?_ ?_ ?_ ?_
              · rw [hI_uI_e ⟨by omega, by omega⟩]; omega
              · rw [hI_uI_n (by omega), hI_uI_n (by omega)]; exact h25
              · rw [hI_uI_n (by omega), hI_uI_n (by omega)]; exact h24
              · rw [hI_uI_n (by omega), hI_uI_e ⟨by omega, by omega⟩, hwd]
                first
                  | (rw [if_pos (by omega)]; done)
                  | (rw [if_neg (by omega)]; done)
            · refine g_bipush dX7_reads_176 (by decide) ?_
              refine g_aload_n dX7_reads_178 rfl ?_
              refine g_getI dX7_reads_179 tf_7_178 rfl rfl ?_
              rw [h26]
              refine g_imul dX7_reads_182 rfl ⟨by omega, by omega⟩ ?_
              refine g_aload_n dX7_reads_183 rfl ?_
              refine g_getA dX7_reads_184 tf_7_56 rfl rfl (mrf hf rfl) ?_
              refine g_aload_n dX7_reads_187 rfl ?_
              refine g_getI dX7_reads_188 tf_7_169 rfl rfl ?_
              refine g_ialdN (a) dX7_reads_191 rfl (by omega) (by omega) ?_
              rw [h16]
              refine g_iadd dX7_reads_192 rfl ⟨by omega, by omega⟩ ?_
              refine g_bipush dX7_reads_193 (by decide) ?_
              refine g_isub dX7_reads_195 rfl ⟨by omega, by omega⟩ ?_
              refine g_goto (tgt := 219) dX7_reads_196 (by decide) ?_
              refine g_putI dX7_reads_219 tf_7_178 rfl rfl rfl ?_
              refine g_aload_n dX7_reads_222 rfl ?_
              refine g_dup dX7_reads_223 rfl ?_
              refine g_getI dX7_reads_224 tf_7_169 rfl rfl ?_
              rw [hI_uI_n (by omega), h27]
              refine g_iconst dX7_reads_227 ⟨by decide, by decide⟩ ?_
              refine g_iadd dX7_reads_228 rfl ⟨by omega, by omega⟩ ?_
              refine g_putI dX7_reads_229 tf_7_169 rfl rfl rfl ?_
              refine g_goto (tgt := 110) dX7_reads_232 (by decide) ?_
              refine ih (a + 1) (by omega) (by omega) (by omega) he hcl2 _ ((fr.u (by omega)).u (by omega)) ?_ ?_ ?_ ?_
              · rw [hI_uI_e ⟨by omega, by omega⟩]; omega
              · rw [hI_uI_n (by omega), hI_uI_n (by omega)]; exact h25
              · rw [hI_uI_n (by omega), hI_uI_n (by omega)]; exact h24
              · rw [hI_uI_n (by omega), hI_uI_e ⟨by omega, by omega⟩, hwd]
                first
                  | (rw [if_pos (by omega)]; done)
                  | (rw [if_neg (by omega)]; done)
      · refine g_aload_n dX7_reads_125 rfl ?_
        refine g_getA dX7_reads_126 tf_7_56 rfl rfl (mrf hf rfl) ?_
        refine g_aload_n dX7_reads_129 rfl ?_
        refine g_getI dX7_reads_130 tf_7_169 rfl rfl ?_
        refine g_ialdN (a) dX7_reads_133 rfl (by omega) (by omega) ?_
        rw [h16]
        refine g_callsI dX7_reads_134 tm_7_184 rfl ⟨Nat.le_of_ble_eq_true rfl, rfl, rfl⟩ (Nat.le_of_ble_eq_true rfl) (cm_isDigit (by omega) _ _) (fun z134 s134 h134 => ?_)
        obtain ⟨h134, e134⟩ := h134
        obtain rfl := e134.symm
        refine g_if_eq (tgt := 235) dX7_reads_137 (by decide) (fun c137 => ?_) (fun c137 => ?_)
        · first
            | exact tail a s (by omega) h1 h2 fr h27 h25 h24 h26 (Or.inl (by rw [if_neg (by omega)] at he; exact he.symm))
            | exact tail a s (by omega) h1 h2 fr h27 h25 h24 h26 (Or.inr ⟨by omega, by
                have hck : clS (hI σ 16 a) = k := by rcases hc with q | q | q <;> omega
                rw [if_pos hck] at he
                have := rnS_r (fun j => hI σ 16 j) k m (a + 1)
                omega⟩)
        · refine g_goto (tgt := 158) dX7_reads_140 (by decide) ?_
          refine g_aload_n dX7_reads_158 rfl ?_
          refine g_getI dX7_reads_159 tf_7_169 rfl rfl ?_
          refine g_aload_n dX7_reads_162 rfl ?_
          refine g_getI dX7_reads_163 tf_7_175 rfl rfl ?_
          refine g_isub dX7_reads_166 rfl ⟨by omega, by omega⟩ ?_
          refine g_iconst dX7_reads_167 ⟨by decide, by decide⟩ ?_
          refine g_icmp_ge (tgt := 235) dX7_reads_168 (by decide) (fun c168 => ?_) (fun c168 => ?_)
          · first
              | exact tail a s (by omega) h1 h2 fr h27 h25 h24 h26 (Or.inl (by rw [if_neg (by omega)] at he; exact he.symm))
              | exact tail a s (by omega) h1 h2 fr h27 h25 h24 h26 (Or.inr ⟨by omega, by
                  have hck : clS (hI σ 16 a) = k := by rcases hc with q | q | q <;> omega
                  rw [if_pos hck] at he
                  have := rnS_r (fun j => hI σ 16 j) k m (a + 1)
                  omega⟩)
          · have hck : clS (hI σ 16 a) = k := by rcases hc with q | q | q <;> omega
            rw [if_pos hck] at he
            have hp : a - b ≤ 4 := by omega
            have hp27 := Nat.pow_le_pow_right (n := 27) (by decide) hp
            have hpv : (27 : Nat) ^ 4 = 531441 := by decide
            have hcl2 : ∀ i, i < a + 1 - b → clS (hI σ 16 (b + i)) = k := by
              intro i hi
              rcases Nat.lt_or_ge i (a - b) with q | q
              · exact hcl i q
              · rw [show b + i = a by omega]; exact hck
            have hwd : wdS (fun j => hI σ 16 j) k b (a + 1 - b) = if k = 1 then 10 * wdS (fun j => hI σ 16 j) k b (a - b) + hI σ 16 a - 48 else 27 * wdS (fun j => hI σ 16 j) k b (a - b) + hI σ 16 a - 96 := by
              rw [show a + 1 - b = (a - b) + 1 by omega]
              show (if k = 1 then 10 * wdS (fun j => hI σ 16 j) k b (a - b) + hI σ 16 (b + (a - b)) - 48 else 27 * wdS (fun j => hI σ 16 j) k b (a - b) + hI σ 16 (b + (a - b)) - 96) = _
              rw [show b + (a - b) = a by omega]
            refine g_aload_n dX7_reads_171 rfl ?_
            refine g_iload_n dX7_reads_172 rfl ?_
            refine g_if_eq (tgt := 199) dX7_reads_173 (by decide) (fun c173 => ?_) (fun c173 => ?_)
            · refine g_bipush dX7_reads_199 (by decide) ?_
              refine g_aload_n dX7_reads_201 rfl ?_
              refine g_getI dX7_reads_202 tf_7_178 rfl rfl ?_
              rw [h26]
              refine g_imul dX7_reads_205 rfl ⟨by omega, by omega⟩ ?_
              refine g_aload_n dX7_reads_206 rfl ?_
              refine g_getA dX7_reads_207 tf_7_56 rfl rfl (mrf hf rfl) ?_
              refine g_aload_n dX7_reads_210 rfl ?_
              refine g_getI dX7_reads_211 tf_7_169 rfl rfl ?_
              refine g_ialdN (a) dX7_reads_214 rfl (by omega) (by omega) ?_
              rw [h16]
              refine g_iadd dX7_reads_215 rfl ⟨by omega, by omega⟩ ?_
              refine g_bipush dX7_reads_216 (by decide) ?_
              refine g_isub dX7_reads_218 rfl ⟨by omega, by omega⟩ ?_
              refine g_putI dX7_reads_219 tf_7_178 rfl rfl rfl ?_
              refine g_aload_n dX7_reads_222 rfl ?_
              refine g_dup dX7_reads_223 rfl ?_
              refine g_getI dX7_reads_224 tf_7_169 rfl rfl ?_
              rw [hI_uI_n (by omega), h27]
              refine g_iconst dX7_reads_227 ⟨by decide, by decide⟩ ?_
              refine g_iadd dX7_reads_228 rfl ⟨by omega, by omega⟩ ?_
              refine g_putI dX7_reads_229 tf_7_169 rfl rfl rfl ?_
              refine g_goto (tgt := 110) dX7_reads_232 (by decide) ?_
              refine ih (a + 1) (by omega) (by omega) (by omega) he hcl2 _ ((fr.u (by omega)).u (by omega)) ?_ ?_ ?_ ?_
              · rw [hI_uI_e ⟨by omega, by omega⟩]; omega
              · rw [hI_uI_n (by omega), hI_uI_n (by omega)]; exact h25
              · rw [hI_uI_n (by omega), hI_uI_n (by omega)]; exact h24
              · rw [hI_uI_n (by omega), hI_uI_e ⟨by omega, by omega⟩, hwd]
                first
                  | (rw [if_pos (by omega)]; done)
                  | (rw [if_neg (by omega)]; done)
            · refine g_bipush dX7_reads_176 (by decide) ?_
              refine g_aload_n dX7_reads_178 rfl ?_
              refine g_getI dX7_reads_179 tf_7_178 rfl rfl ?_
              rw [h26]
              refine g_imul dX7_reads_182 rfl ⟨by omega, by omega⟩ ?_
              refine g_aload_n dX7_reads_183 rfl ?_
              refine g_getA dX7_reads_184 tf_7_56 rfl rfl (mrf hf rfl) ?_
              refine g_aload_n dX7_reads_187 rfl ?_
              refine g_getI dX7_reads_188 tf_7_169 rfl rfl ?_
              refine g_ialdN (a) dX7_reads_191 rfl (by omega) (by omega) ?_
              rw [h16]
              refine g_iadd dX7_reads_192 rfl ⟨by omega, by omega⟩ ?_
              refine g_bipush dX7_reads_193 (by decide) ?_
              refine g_isub dX7_reads_195 rfl ⟨by omega, by omega⟩ ?_
              refine g_goto (tgt := 219) dX7_reads_196 (by decide) ?_
              refine g_putI dX7_reads_219 tf_7_178 rfl rfl rfl ?_
              refine g_aload_n dX7_reads_222 rfl ?_
              refine g_dup dX7_reads_223 rfl ?_
              refine g_getI dX7_reads_224 tf_7_169 rfl rfl ?_
              rw [hI_uI_n (by omega), h27]
              refine g_iconst dX7_reads_227 ⟨by decide, by decide⟩ ?_
              refine g_iadd dX7_reads_228 rfl ⟨by omega, by omega⟩ ?_
              refine g_putI dX7_reads_229 tf_7_169 rfl rfl rfl ?_
              refine g_goto (tgt := 110) dX7_reads_232 (by decide) ?_
              refine ih (a + 1) (by omega) (by omega) (by omega) he hcl2 _ ((fr.u (by omega)).u (by omega)) ?_ ?_ ?_ ?_
              · rw [hI_uI_e ⟨by omega, by omega⟩]; omega
              · rw [hI_uI_n (by omega), hI_uI_n (by omega)]; exact h25
              · rw [hI_uI_n (by omega), hI_uI_n (by omega)]; exact h24
              · rw [hI_uI_n (by omega), hI_uI_e ⟨by omega, by omega⟩, hwd]
                first
                  | (rw [if_pos (by omega)]; done)
                  | (rw [if_neg (by omega)]; done)
theorem cm_reads {D : Nat} (hD : 2 ≤ D) (σ : am_HS) (hf0 : σ.2.2 = mH) (hbb : rgM σ) (n a : Nat) (hn : hI σ 0 28 = (n : Int)) (hn6 : n ≤ 600) (ha : hI σ 0 27 = (a : Int)) (han : a ≤ n) : am_Do lm D mX7_reads σ [vR (some 0)] (qV fun s => FrW σ s ∧ WdM (tkS (fun j => hI σ 16 j) n a) s) := by
  obtain ⟨d, rfl⟩ : ∃ d, D = d + 1 := ⟨D - 1, by omega⟩
  refine am_enter rfl rfl (Nat.le_of_ble_eq_true rfl) ?_
  obtain ⟨b, hb⟩ : ∃ b, skS (fun j => hI σ 16 j) (n - a) a = b := ⟨_, rfl⟩
  have hbr := skS_r (fun j => hI σ 16 j) (n - a) a
  rw [hb] at hbr
  refine cm_readsA (by omega) σ hf0 n hn hn6 _ none none b ?_ (n - a) a (by omega) hb σ (FrW.rf σ) ha
  intro s fr h27
  have hf : s.2.2 = mH := by rw [fr.1]; exact hf0
  have h28 : hI s 0 28 = (n : Int) := (fr.2 0 28 (by omega)).trans hn
  have h16 : hI s 16 b = hI σ 16 b := fr.2 16 b (by omega)
  have hx := txb hbb b
  have hc := clS_r (hI σ 16 b)
  have hfin : ∀ s2, FrW σ s2 → b ≠ n → ∀ k : Nat, clS (hI σ 16 b) = k → k ≠ 0 → RnM σ n b k (rnS (fun j => hI σ 16 j) k (n - b) b) s2 → FrW σ s2 ∧ WdM (tkS (fun j => hI σ 16 j) n a) s2 := by
    intro s2 fr2 hbn k hk hk0 ⟨g1, g2, g3⟩
    refine ⟨fr2, ?_⟩
    unfold tkS WdM
    rw [hb, if_neg hbn]
    dsimp only
    rw [hk, if_neg hk0]
    by_cases q : b + 4 < rnS (fun j => hI σ 16 j) k (n - b) b
    · rw [if_pos q]
      rw [if_neg (by omega)] at g1
      exact ⟨g1, g2, fun h => absurd rfl h⟩
    · rw [if_neg q]
      rw [if_pos (by omega)] at g1
      exact ⟨g1, g2, fun _ => g3 (by omega)⟩
  refine g_aload_n dX7_reads_38 rfl ?_
  refine g_aload_n dX7_reads_39 rfl ?_
  refine g_getI dX7_reads_40 tf_7_169 rfl rfl ?_
  rw [h27]
  refine g_putI dX7_reads_43 tf_7_175 rfl rfl rfl ?_
  refine g_aload_n dX7_reads_46 rfl ?_
  refine g_iconst dX7_reads_47 ⟨by decide, by decide⟩ ?_
  refine g_putI dX7_reads_48 tf_7_178 rfl rfl rfl ?_
  refine g_aload_n dX7_reads_51 rfl ?_
  refine g_getI dX7_reads_52 tf_7_169 rfl rfl ?_
  rw [hI_uI_n (by omega), hI_uI_n (by omega), h27]
  refine g_aload_n dX7_reads_55 rfl ?_
  refine g_getI dX7_reads_56 tf_7_172 rfl rfl ?_
  rw [hI_uI_n (by omega), hI_uI_n (by omega), h28]
  refine g_icmp_ne (tgt := 68) dX7_reads_59 (by decide) (fun c59 => ?_) (fun c59 => ?_)
  · refine g_aload_n dX7_reads_68 rfl ?_
    refine g_getA dX7_reads_69 tf_7_56 rfl rfl (mrf hf rfl) ?_
    refine g_aload_n dX7_reads_72 rfl ?_
    refine g_getI dX7_reads_73 tf_7_169 rfl rfl ?_
    rw [hI_uI_n (by omega), hI_uI_n (by omega), h27]
    refine g_ialdN (b) dX7_reads_76 rfl (by omega) (by omega) ?_
    rw [hI_uI_n (by omega), hI_uI_n (by omega), h16]
    refine g_istore_n dX7_reads_77 (by decide) rfl ?_
    refine g_iload_n dX7_reads_78 rfl ?_
    refine g_callsI dX7_reads_79 tm_7_184 rfl ⟨Nat.le_of_ble_eq_true rfl, rfl, rfl⟩ (Nat.le_of_ble_eq_true rfl) (cm_isDigit (by omega) _ _) (fun z79 s79 h79 => ?_)
    obtain ⟨h79, e79⟩ := h79
    obtain rfl := e79.symm
    refine g_if_ne (tgt := 92) dX7_reads_82 (by decide) (fun c82 => ?_) (fun c82 => ?_)
    · refine g_iload_n dX7_reads_92 rfl ?_
      refine g_callsI dX7_reads_93 tm_7_184 rfl ⟨Nat.le_of_ble_eq_true rfl, rfl, rfl⟩ (Nat.le_of_ble_eq_true rfl) (cm_isDigit (by omega) _ _) (fun z93 s93 h93 => ?_)
      obtain ⟨h93, e93⟩ := h93
      obtain rfl := e93.symm
      refine g_istore_n dX7_reads_96 (by decide) rfl ?_
      refine g_aload_n dX7_reads_97 rfl ?_
      refine g_iload_n dX7_reads_98 rfl ?_
      refine g_if_eq (tgt := 106) dX7_reads_99 (by decide) (fun c99 => ?_) (fun c99 => ?_)
      · refine g_iconst dX7_reads_106 ⟨by decide, by decide⟩ ?_
        refine g_putI dX7_reads_107 tf_7_181 rfl rfl rfl ?_
        first
          | (have hcl : clS (hI σ 16 b) = 1 := by rcases hc with q | q | q <;> omega
             refine am_Go.mono (cm_readsB (by omega) σ hf0 hbb n hn hn6 b 1 (rnS (fun j => hI σ 16 j) 1 (n - b) b) _ (by omega) _ (n - b) b (by omega) (by omega) (by omega) rfl (fun i hi => by omega) _ (((fr.u (by omega)).u (by omega)).u (by omega)) ?_ ?_ ?_ ?_) (fun r s2 (h : qV _ r s2) => ⟨h.1, hfin s2 h.2.1 (by omega) 1 hcl (by omega) h.2.2⟩)
             · rw [hI_uI_n (by omega), hI_uI_n (by omega), hI_uI_n (by omega)]; exact h27
             · rw [hI_uI_n (by omega), hI_uI_n (by omega), hI_uI_e ⟨by omega, by omega⟩]
             · exact hI_uI_e ⟨by omega, by omega⟩
             · rw [hI_uI_n (by omega), hI_uI_e ⟨by omega, by omega⟩, Nat.sub_self]; rfl)
          | (have hcl : clS (hI σ 16 b) = 2 := by rcases hc with q | q | q <;> omega
             refine am_Go.mono (cm_readsB (by omega) σ hf0 hbb n hn hn6 b 2 (rnS (fun j => hI σ 16 j) 2 (n - b) b) _ (by omega) _ (n - b) b (by omega) (by omega) (by omega) rfl (fun i hi => by omega) _ (((fr.u (by omega)).u (by omega)).u (by omega)) ?_ ?_ ?_ ?_) (fun r s2 (h : qV _ r s2) => ⟨h.1, hfin s2 h.2.1 (by omega) 2 hcl (by omega) h.2.2⟩)
             · rw [hI_uI_n (by omega), hI_uI_n (by omega), hI_uI_n (by omega)]; exact h27
             · rw [hI_uI_n (by omega), hI_uI_n (by omega), hI_uI_e ⟨by omega, by omega⟩]
             · exact hI_uI_e ⟨by omega, by omega⟩
             · rw [hI_uI_n (by omega), hI_uI_e ⟨by omega, by omega⟩, Nat.sub_self]; rfl)
      · refine g_iconst dX7_reads_102 ⟨by decide, by decide⟩ ?_
        refine g_goto (tgt := 107) dX7_reads_103 (by decide) ?_
        refine g_putI dX7_reads_107 tf_7_181 rfl rfl rfl ?_
        first
          | (have hcl : clS (hI σ 16 b) = 1 := by rcases hc with q | q | q <;> omega
             refine am_Go.mono (cm_readsB (by omega) σ hf0 hbb n hn hn6 b 1 (rnS (fun j => hI σ 16 j) 1 (n - b) b) _ (by omega) _ (n - b) b (by omega) (by omega) (by omega) rfl (fun i hi => by omega) _ (((fr.u (by omega)).u (by omega)).u (by omega)) ?_ ?_ ?_ ?_) (fun r s2 (h : qV _ r s2) => ⟨h.1, hfin s2 h.2.1 (by omega) 1 hcl (by omega) h.2.2⟩)
             · rw [hI_uI_n (by omega), hI_uI_n (by omega), hI_uI_n (by omega)]; exact h27
             · rw [hI_uI_n (by omega), hI_uI_n (by omega), hI_uI_e ⟨by omega, by omega⟩]
             · exact hI_uI_e ⟨by omega, by omega⟩
             · rw [hI_uI_n (by omega), hI_uI_e ⟨by omega, by omega⟩, Nat.sub_self]; rfl)
          | (have hcl : clS (hI σ 16 b) = 2 := by rcases hc with q | q | q <;> omega
             refine am_Go.mono (cm_readsB (by omega) σ hf0 hbb n hn hn6 b 2 (rnS (fun j => hI σ 16 j) 2 (n - b) b) _ (by omega) _ (n - b) b (by omega) (by omega) (by omega) rfl (fun i hi => by omega) _ (((fr.u (by omega)).u (by omega)).u (by omega)) ?_ ?_ ?_ ?_) (fun r s2 (h : qV _ r s2) => ⟨h.1, hfin s2 h.2.1 (by omega) 2 hcl (by omega) h.2.2⟩)
             · rw [hI_uI_n (by omega), hI_uI_n (by omega), hI_uI_n (by omega)]; exact h27
             · rw [hI_uI_n (by omega), hI_uI_n (by omega), hI_uI_e ⟨by omega, by omega⟩]
             · exact hI_uI_e ⟨by omega, by omega⟩
             · rw [hI_uI_n (by omega), hI_uI_e ⟨by omega, by omega⟩, Nat.sub_self]; rfl)
    · refine g_iload_n dX7_reads_85 rfl ?_
      refine g_callsI dX7_reads_86 tm_7_187 rfl ⟨Nat.le_of_ble_eq_true rfl, rfl, rfl⟩ (Nat.le_of_ble_eq_true rfl) (cm_isLetter (by omega) _ _) (fun z86 s86 h86 => ?_)
      obtain ⟨h86, e86⟩ := h86
      obtain rfl := e86.symm
      refine g_if_eq (tgt := 254) dX7_reads_89 (by decide) (fun c89 => ?_) (fun c89 => ?_)
      · refine g_iload_n dX7_reads_254 rfl ?_
        refine g_bipush dX7_reads_255 (by decide) ?_
        refine g_icmp_lt (tgt := 266) dX7_reads_257 (by decide) (fun c257 => ?_) (fun c257 => ?_)
        · refine g_iload_n dX7_reads_266 rfl ?_
          refine g_bipush dX7_reads_267 (by decide) ?_
          refine g_icmp_eq (tgt := 284) dX7_reads_269 (by decide) (fun c269 => ?_) (fun c269 => ?_)
          · refine g_iconst dX7_reads_284 ⟨by decide, by decide⟩ ?_
            refine g_goto (tgt := 289) dX7_reads_285 (by decide) ?_
            refine g_istore_n dX7_reads_289 (by decide) rfl ?_
            refine g_aload_n dX7_reads_290 rfl ?_
            refine g_iload_n dX7_reads_291 rfl ?_
            refine g_if_eq (tgt := 299) dX7_reads_292 (by decide) (fun c292 => ?_) (fun c292 => ?_)
            · exfalso; omega
            · refine g_iconst dX7_reads_295 ⟨by decide, by decide⟩ ?_
              refine g_goto (tgt := 300) dX7_reads_296 (by decide) ?_
              refine g_putI dX7_reads_300 tf_7_181 rfl rfl rfl ?_
              refine g_aload_n dX7_reads_303 rfl ?_
              refine g_iload_n dX7_reads_304 rfl ?_
              refine g_putI dX7_reads_305 tf_7_178 rfl rfl rfl ?_
              refine g_aload_n dX7_reads_308 rfl ?_
              refine g_dup dX7_reads_309 rfl ?_
              refine g_getI dX7_reads_310 tf_7_169 rfl rfl ?_
              rw [hI_uI_n (by omega), hI_uI_n (by omega), hI_uI_n (by omega), hI_uI_n (by omega), h27]
              refine g_iconst dX7_reads_313 ⟨by decide, by decide⟩ ?_
              refine g_iadd dX7_reads_314 rfl ⟨by omega, by omega⟩ ?_
              refine g_putI dX7_reads_315 tf_7_169 rfl rfl rfl ?_
              refine g_return dX7_reads_318 rfl ⟨rfl, ?_⟩
              have hcl : clS (hI σ 16 b) = 0 := by rcases hc with q | q | q <;> omega
              refine ⟨(((((fr.u (by omega)).u (by omega)).u (by omega)).u (by omega)).u (by omega)), ?_⟩
              unfold tkS WdM
              rw [hb, if_neg (by omega)]
              dsimp only
              rw [if_pos hcl]
              refine ⟨?_, ?_, fun h => ⟨?_, ?_⟩⟩
              · rw [hI_uI_n (by omega), hI_uI_n (by omega), hI_uI_e ⟨by omega, by omega⟩]
                first
                  | (rw [if_pos (by omega)]; done)
                  | (rw [if_neg (by omega)]; done)
              · rw [hI_uI_n (by omega), hI_uI_n (by omega), hI_uI_n (by omega), hI_uI_n (by omega), hI_uI_e ⟨by omega, by omega⟩]
              · rw [hI_uI_n (by omega), hI_uI_e ⟨by omega, by omega⟩]
              · rw [hI_uI_e ⟨by omega, by omega⟩]
                show (b : Int) + 1 = ((b + 1 : Nat) : Int)
                omega
          · refine g_iload_n dX7_reads_272 rfl ?_
            refine g_bipush dX7_reads_273 (by decide) ?_
            refine g_icmp_eq (tgt := 284) dX7_reads_275 (by decide) (fun c275 => ?_) (fun c275 => ?_)
            · refine g_iconst dX7_reads_284 ⟨by decide, by decide⟩ ?_
              refine g_goto (tgt := 289) dX7_reads_285 (by decide) ?_
              refine g_istore_n dX7_reads_289 (by decide) rfl ?_
              refine g_aload_n dX7_reads_290 rfl ?_
              refine g_iload_n dX7_reads_291 rfl ?_
              refine g_if_eq (tgt := 299) dX7_reads_292 (by decide) (fun c292 => ?_) (fun c292 => ?_)
              · exfalso; omega
              · refine g_iconst dX7_reads_295 ⟨by decide, by decide⟩ ?_
                refine g_goto (tgt := 300) dX7_reads_296 (by decide) ?_
                refine g_putI dX7_reads_300 tf_7_181 rfl rfl rfl ?_
                refine g_aload_n dX7_reads_303 rfl ?_
                refine g_iload_n dX7_reads_304 rfl ?_
                refine g_putI dX7_reads_305 tf_7_178 rfl rfl rfl ?_
                refine g_aload_n dX7_reads_308 rfl ?_
                refine g_dup dX7_reads_309 rfl ?_
                refine g_getI dX7_reads_310 tf_7_169 rfl rfl ?_
                rw [hI_uI_n (by omega), hI_uI_n (by omega), hI_uI_n (by omega), hI_uI_n (by omega), h27]
                refine g_iconst dX7_reads_313 ⟨by decide, by decide⟩ ?_
                refine g_iadd dX7_reads_314 rfl ⟨by omega, by omega⟩ ?_
                refine g_putI dX7_reads_315 tf_7_169 rfl rfl rfl ?_
                refine g_return dX7_reads_318 rfl ⟨rfl, ?_⟩
                have hcl : clS (hI σ 16 b) = 0 := by rcases hc with q | q | q <;> omega
                refine ⟨(((((fr.u (by omega)).u (by omega)).u (by omega)).u (by omega)).u (by omega)), ?_⟩
                unfold tkS WdM
                rw [hb, if_neg (by omega)]
                dsimp only
                rw [if_pos hcl]
                refine ⟨?_, ?_, fun h => ⟨?_, ?_⟩⟩
                · rw [hI_uI_n (by omega), hI_uI_n (by omega), hI_uI_e ⟨by omega, by omega⟩]
                  first
                    | (rw [if_pos (by omega)]; done)
                    | (rw [if_neg (by omega)]; done)
                · rw [hI_uI_n (by omega), hI_uI_n (by omega), hI_uI_n (by omega), hI_uI_n (by omega), hI_uI_e ⟨by omega, by omega⟩]
                · rw [hI_uI_n (by omega), hI_uI_e ⟨by omega, by omega⟩]
                · rw [hI_uI_e ⟨by omega, by omega⟩]
                  show (b : Int) + 1 = ((b + 1 : Nat) : Int)
                  omega
            · refine g_iload_n dX7_reads_278 rfl ?_
              refine g_bipush dX7_reads_279 (by decide) ?_
              refine g_icmp_ne (tgt := 288) dX7_reads_281 (by decide) (fun c281 => ?_) (fun c281 => ?_)
              · refine g_iconst dX7_reads_288 ⟨by decide, by decide⟩ ?_
                refine g_istore_n dX7_reads_289 (by decide) rfl ?_
                refine g_aload_n dX7_reads_290 rfl ?_
                refine g_iload_n dX7_reads_291 rfl ?_
                refine g_if_eq (tgt := 299) dX7_reads_292 (by decide) (fun c292 => ?_) (fun c292 => ?_)
                · refine g_iconst dX7_reads_299 ⟨by decide, by decide⟩ ?_
                  refine g_putI dX7_reads_300 tf_7_181 rfl rfl rfl ?_
                  refine g_aload_n dX7_reads_303 rfl ?_
                  refine g_iload_n dX7_reads_304 rfl ?_
                  refine g_putI dX7_reads_305 tf_7_178 rfl rfl rfl ?_
                  refine g_aload_n dX7_reads_308 rfl ?_
                  refine g_dup dX7_reads_309 rfl ?_
                  refine g_getI dX7_reads_310 tf_7_169 rfl rfl ?_
                  rw [hI_uI_n (by omega), hI_uI_n (by omega), hI_uI_n (by omega), hI_uI_n (by omega), h27]
                  refine g_iconst dX7_reads_313 ⟨by decide, by decide⟩ ?_
                  refine g_iadd dX7_reads_314 rfl ⟨by omega, by omega⟩ ?_
                  refine g_putI dX7_reads_315 tf_7_169 rfl rfl rfl ?_
                  refine g_return dX7_reads_318 rfl ⟨rfl, ?_⟩
                  have hcl : clS (hI σ 16 b) = 0 := by rcases hc with q | q | q <;> omega
                  refine ⟨(((((fr.u (by omega)).u (by omega)).u (by omega)).u (by omega)).u (by omega)), ?_⟩
                  unfold tkS WdM
                  rw [hb, if_neg (by omega)]
                  dsimp only
                  rw [if_pos hcl]
                  refine ⟨?_, ?_, fun h => ⟨?_, ?_⟩⟩
                  · rw [hI_uI_n (by omega), hI_uI_n (by omega), hI_uI_e ⟨by omega, by omega⟩]
                    first
                      | (rw [if_pos (by omega)]; done)
                      | (rw [if_neg (by omega)]; done)
                  · rw [hI_uI_n (by omega), hI_uI_n (by omega), hI_uI_n (by omega), hI_uI_n (by omega), hI_uI_e ⟨by omega, by omega⟩]
                  · rw [hI_uI_n (by omega), hI_uI_e ⟨by omega, by omega⟩]
                  · rw [hI_uI_e ⟨by omega, by omega⟩]
                    show (b : Int) + 1 = ((b + 1 : Nat) : Int)
                    omega
                · exfalso; omega
              · refine g_iconst dX7_reads_284 ⟨by decide, by decide⟩ ?_
                refine g_goto (tgt := 289) dX7_reads_285 (by decide) ?_
                refine g_istore_n dX7_reads_289 (by decide) rfl ?_
                refine g_aload_n dX7_reads_290 rfl ?_
                refine g_iload_n dX7_reads_291 rfl ?_
                refine g_if_eq (tgt := 299) dX7_reads_292 (by decide) (fun c292 => ?_) (fun c292 => ?_)
                · exfalso; omega
                · refine g_iconst dX7_reads_295 ⟨by decide, by decide⟩ ?_
                  refine g_goto (tgt := 300) dX7_reads_296 (by decide) ?_
                  refine g_putI dX7_reads_300 tf_7_181 rfl rfl rfl ?_
                  refine g_aload_n dX7_reads_303 rfl ?_
                  refine g_iload_n dX7_reads_304 rfl ?_
                  refine g_putI dX7_reads_305 tf_7_178 rfl rfl rfl ?_
                  refine g_aload_n dX7_reads_308 rfl ?_
                  refine g_dup dX7_reads_309 rfl ?_
                  refine g_getI dX7_reads_310 tf_7_169 rfl rfl ?_
                  rw [hI_uI_n (by omega), hI_uI_n (by omega), hI_uI_n (by omega), hI_uI_n (by omega), h27]
                  refine g_iconst dX7_reads_313 ⟨by decide, by decide⟩ ?_
                  refine g_iadd dX7_reads_314 rfl ⟨by omega, by omega⟩ ?_
                  refine g_putI dX7_reads_315 tf_7_169 rfl rfl rfl ?_
                  refine g_return dX7_reads_318 rfl ⟨rfl, ?_⟩
                  have hcl : clS (hI σ 16 b) = 0 := by rcases hc with q | q | q <;> omega
                  refine ⟨(((((fr.u (by omega)).u (by omega)).u (by omega)).u (by omega)).u (by omega)), ?_⟩
                  unfold tkS WdM
                  rw [hb, if_neg (by omega)]
                  dsimp only
                  rw [if_pos hcl]
                  refine ⟨?_, ?_, fun h => ⟨?_, ?_⟩⟩
                  · rw [hI_uI_n (by omega), hI_uI_n (by omega), hI_uI_e ⟨by omega, by omega⟩]
                    first
                      | (rw [if_pos (by omega)]; done)
                      | (rw [if_neg (by omega)]; done)
                  · rw [hI_uI_n (by omega), hI_uI_n (by omega), hI_uI_n (by omega), hI_uI_n (by omega), hI_uI_e ⟨by omega, by omega⟩]
                  · rw [hI_uI_n (by omega), hI_uI_e ⟨by omega, by omega⟩]
                  · rw [hI_uI_e ⟨by omega, by omega⟩]
                    show (b : Int) + 1 = ((b + 1 : Nat) : Int)
                    omega
        · refine g_iload_n dX7_reads_260 rfl ?_
          refine g_bipush dX7_reads_261 (by decide) ?_
          refine g_icmp_le (tgt := 284) dX7_reads_263 (by decide) (fun c263 => ?_) (fun c263 => ?_)
          · refine g_iconst dX7_reads_284 ⟨by decide, by decide⟩ ?_
            refine g_goto (tgt := 289) dX7_reads_285 (by decide) ?_
            refine g_istore_n dX7_reads_289 (by decide) rfl ?_
            refine g_aload_n dX7_reads_290 rfl ?_
            refine g_iload_n dX7_reads_291 rfl ?_
            refine g_if_eq (tgt := 299) dX7_reads_292 (by decide) (fun c292 => ?_) (fun c292 => ?_)
            · exfalso; omega
            · refine g_iconst dX7_reads_295 ⟨by decide, by decide⟩ ?_
              refine g_goto (tgt := 300) dX7_reads_296 (by decide) ?_
              refine g_putI dX7_reads_300 tf_7_181 rfl rfl rfl ?_
              refine g_aload_n dX7_reads_303 rfl ?_
              refine g_iload_n dX7_reads_304 rfl ?_
              refine g_putI dX7_reads_305 tf_7_178 rfl rfl rfl ?_
              refine g_aload_n dX7_reads_308 rfl ?_
              refine g_dup dX7_reads_309 rfl ?_
              refine g_getI dX7_reads_310 tf_7_169 rfl rfl ?_
              rw [hI_uI_n (by omega), hI_uI_n (by omega), hI_uI_n (by omega), hI_uI_n (by omega), h27]
              refine g_iconst dX7_reads_313 ⟨by decide, by decide⟩ ?_
              refine g_iadd dX7_reads_314 rfl ⟨by omega, by omega⟩ ?_
              refine g_putI dX7_reads_315 tf_7_169 rfl rfl rfl ?_
              refine g_return dX7_reads_318 rfl ⟨rfl, ?_⟩
              have hcl : clS (hI σ 16 b) = 0 := by rcases hc with q | q | q <;> omega
              refine ⟨(((((fr.u (by omega)).u (by omega)).u (by omega)).u (by omega)).u (by omega)), ?_⟩
              unfold tkS WdM
              rw [hb, if_neg (by omega)]
              dsimp only
              rw [if_pos hcl]
              refine ⟨?_, ?_, fun h => ⟨?_, ?_⟩⟩
              · rw [hI_uI_n (by omega), hI_uI_n (by omega), hI_uI_e ⟨by omega, by omega⟩]
                first
                  | (rw [if_pos (by omega)]; done)
                  | (rw [if_neg (by omega)]; done)
              · rw [hI_uI_n (by omega), hI_uI_n (by omega), hI_uI_n (by omega), hI_uI_n (by omega), hI_uI_e ⟨by omega, by omega⟩]
              · rw [hI_uI_n (by omega), hI_uI_e ⟨by omega, by omega⟩]
              · rw [hI_uI_e ⟨by omega, by omega⟩]
                show (b : Int) + 1 = ((b + 1 : Nat) : Int)
                omega
          · refine g_iload_n dX7_reads_266 rfl ?_
            refine g_bipush dX7_reads_267 (by decide) ?_
            refine g_icmp_eq (tgt := 284) dX7_reads_269 (by decide) (fun c269 => ?_) (fun c269 => ?_)
            · refine g_iconst dX7_reads_284 ⟨by decide, by decide⟩ ?_
              refine g_goto (tgt := 289) dX7_reads_285 (by decide) ?_
              refine g_istore_n dX7_reads_289 (by decide) rfl ?_
              refine g_aload_n dX7_reads_290 rfl ?_
              refine g_iload_n dX7_reads_291 rfl ?_
              refine g_if_eq (tgt := 299) dX7_reads_292 (by decide) (fun c292 => ?_) (fun c292 => ?_)
              · exfalso; omega
              · refine g_iconst dX7_reads_295 ⟨by decide, by decide⟩ ?_
                refine g_goto (tgt := 300) dX7_reads_296 (by decide) ?_
                refine g_putI dX7_reads_300 tf_7_181 rfl rfl rfl ?_
                refine g_aload_n dX7_reads_303 rfl ?_
                refine g_iload_n dX7_reads_304 rfl ?_
                refine g_putI dX7_reads_305 tf_7_178 rfl rfl rfl ?_
                refine g_aload_n dX7_reads_308 rfl ?_
                refine g_dup dX7_reads_309 rfl ?_
                refine g_getI dX7_reads_310 tf_7_169 rfl rfl ?_
                rw [hI_uI_n (by omega), hI_uI_n (by omega), hI_uI_n (by omega), hI_uI_n (by omega), h27]
                refine g_iconst dX7_reads_313 ⟨by decide, by decide⟩ ?_
                refine g_iadd dX7_reads_314 rfl ⟨by omega, by omega⟩ ?_
                refine g_putI dX7_reads_315 tf_7_169 rfl rfl rfl ?_
                refine g_return dX7_reads_318 rfl ⟨rfl, ?_⟩
                have hcl : clS (hI σ 16 b) = 0 := by rcases hc with q | q | q <;> omega
                refine ⟨(((((fr.u (by omega)).u (by omega)).u (by omega)).u (by omega)).u (by omega)), ?_⟩
                unfold tkS WdM
                rw [hb, if_neg (by omega)]
                dsimp only
                rw [if_pos hcl]
                refine ⟨?_, ?_, fun h => ⟨?_, ?_⟩⟩
                · rw [hI_uI_n (by omega), hI_uI_n (by omega), hI_uI_e ⟨by omega, by omega⟩]
                  first
                    | (rw [if_pos (by omega)]; done)
                    | (rw [if_neg (by omega)]; done)
                · rw [hI_uI_n (by omega), hI_uI_n (by omega), hI_uI_n (by omega), hI_uI_n (by omega), hI_uI_e ⟨by omega, by omega⟩]
                · rw [hI_uI_n (by omega), hI_uI_e ⟨by omega, by omega⟩]
                · rw [hI_uI_e ⟨by omega, by omega⟩]
                  show (b : Int) + 1 = ((b + 1 : Nat) : Int)
                  omega
            · refine g_iload_n dX7_reads_272 rfl ?_
              refine g_bipush dX7_reads_273 (by decide) ?_
              refine g_icmp_eq (tgt := 284) dX7_reads_275 (by decide) (fun c275 => ?_) (fun c275 => ?_)
              · refine g_iconst dX7_reads_284 ⟨by decide, by decide⟩ ?_
                refine g_goto (tgt := 289) dX7_reads_285 (by decide) ?_
                refine g_istore_n dX7_reads_289 (by decide) rfl ?_
                refine g_aload_n dX7_reads_290 rfl ?_
                refine g_iload_n dX7_reads_291 rfl ?_
                refine g_if_eq (tgt := 299) dX7_reads_292 (by decide) (fun c292 => ?_) (fun c292 => ?_)
                · exfalso; omega
                · refine g_iconst dX7_reads_295 ⟨by decide, by decide⟩ ?_
                  refine g_goto (tgt := 300) dX7_reads_296 (by decide) ?_
                  refine g_putI dX7_reads_300 tf_7_181 rfl rfl rfl ?_
                  refine g_aload_n dX7_reads_303 rfl ?_
                  refine g_iload_n dX7_reads_304 rfl ?_
                  refine g_putI dX7_reads_305 tf_7_178 rfl rfl rfl ?_
                  refine g_aload_n dX7_reads_308 rfl ?_
                  refine g_dup dX7_reads_309 rfl ?_
                  refine g_getI dX7_reads_310 tf_7_169 rfl rfl ?_
                  rw [hI_uI_n (by omega), hI_uI_n (by omega), hI_uI_n (by omega), hI_uI_n (by omega), h27]
                  refine g_iconst dX7_reads_313 ⟨by decide, by decide⟩ ?_
                  refine g_iadd dX7_reads_314 rfl ⟨by omega, by omega⟩ ?_
                  refine g_putI dX7_reads_315 tf_7_169 rfl rfl rfl ?_
                  refine g_return dX7_reads_318 rfl ⟨rfl, ?_⟩
                  have hcl : clS (hI σ 16 b) = 0 := by rcases hc with q | q | q <;> omega
                  refine ⟨(((((fr.u (by omega)).u (by omega)).u (by omega)).u (by omega)).u (by omega)), ?_⟩
                  unfold tkS WdM
                  rw [hb, if_neg (by omega)]
                  dsimp only
                  rw [if_pos hcl]
                  refine ⟨?_, ?_, fun h => ⟨?_, ?_⟩⟩
                  · rw [hI_uI_n (by omega), hI_uI_n (by omega), hI_uI_e ⟨by omega, by omega⟩]
                    first
                      | (rw [if_pos (by omega)]; done)
                      | (rw [if_neg (by omega)]; done)
                  · rw [hI_uI_n (by omega), hI_uI_n (by omega), hI_uI_n (by omega), hI_uI_n (by omega), hI_uI_e ⟨by omega, by omega⟩]
                  · rw [hI_uI_n (by omega), hI_uI_e ⟨by omega, by omega⟩]
                  · rw [hI_uI_e ⟨by omega, by omega⟩]
                    show (b : Int) + 1 = ((b + 1 : Nat) : Int)
                    omega
              · refine g_iload_n dX7_reads_278 rfl ?_
                refine g_bipush dX7_reads_279 (by decide) ?_
                refine g_icmp_ne (tgt := 288) dX7_reads_281 (by decide) (fun c281 => ?_) (fun c281 => ?_)
                · refine g_iconst dX7_reads_288 ⟨by decide, by decide⟩ ?_
                  refine g_istore_n dX7_reads_289 (by decide) rfl ?_
                  refine g_aload_n dX7_reads_290 rfl ?_
                  refine g_iload_n dX7_reads_291 rfl ?_
                  refine g_if_eq (tgt := 299) dX7_reads_292 (by decide) (fun c292 => ?_) (fun c292 => ?_)
                  · refine g_iconst dX7_reads_299 ⟨by decide, by decide⟩ ?_
                    refine g_putI dX7_reads_300 tf_7_181 rfl rfl rfl ?_
                    refine g_aload_n dX7_reads_303 rfl ?_
                    refine g_iload_n dX7_reads_304 rfl ?_
                    refine g_putI dX7_reads_305 tf_7_178 rfl rfl rfl ?_
                    refine g_aload_n dX7_reads_308 rfl ?_
                    refine g_dup dX7_reads_309 rfl ?_
                    refine g_getI dX7_reads_310 tf_7_169 rfl rfl ?_
                    rw [hI_uI_n (by omega), hI_uI_n (by omega), hI_uI_n (by omega), hI_uI_n (by omega), h27]
                    refine g_iconst dX7_reads_313 ⟨by decide, by decide⟩ ?_
                    refine g_iadd dX7_reads_314 rfl ⟨by omega, by omega⟩ ?_
                    refine g_putI dX7_reads_315 tf_7_169 rfl rfl rfl ?_
                    refine g_return dX7_reads_318 rfl ⟨rfl, ?_⟩
                    have hcl : clS (hI σ 16 b) = 0 := by rcases hc with q | q | q <;> omega
                    refine ⟨(((((fr.u (by omega)).u (by omega)).u (by omega)).u (by omega)).u (by omega)), ?_⟩
                    unfold tkS WdM
                    rw [hb, if_neg (by omega)]
                    dsimp only
                    rw [if_pos hcl]
                    refine ⟨?_, ?_, fun h => ⟨?_, ?_⟩⟩
                    · rw [hI_uI_n (by omega), hI_uI_n (by omega), hI_uI_e ⟨by omega, by omega⟩]
                      first
                        | (rw [if_pos (by omega)]; done)
                        | (rw [if_neg (by omega)]; done)
                    · rw [hI_uI_n (by omega), hI_uI_n (by omega), hI_uI_n (by omega), hI_uI_n (by omega), hI_uI_e ⟨by omega, by omega⟩]
                    · rw [hI_uI_n (by omega), hI_uI_e ⟨by omega, by omega⟩]
                    · rw [hI_uI_e ⟨by omega, by omega⟩]
                      show (b : Int) + 1 = ((b + 1 : Nat) : Int)
                      omega
                  · exfalso; omega
                · refine g_iconst dX7_reads_284 ⟨by decide, by decide⟩ ?_
                  refine g_goto (tgt := 289) dX7_reads_285 (by decide) ?_
                  refine g_istore_n dX7_reads_289 (by decide) rfl ?_
                  refine g_aload_n dX7_reads_290 rfl ?_
                  refine g_iload_n dX7_reads_291 rfl ?_
                  refine g_if_eq (tgt := 299) dX7_reads_292 (by decide) (fun c292 => ?_) (fun c292 => ?_)
                  · exfalso; omega
                  · refine g_iconst dX7_reads_295 ⟨by decide, by decide⟩ ?_
                    refine g_goto (tgt := 300) dX7_reads_296 (by decide) ?_
                    refine g_putI dX7_reads_300 tf_7_181 rfl rfl rfl ?_
                    refine g_aload_n dX7_reads_303 rfl ?_
                    refine g_iload_n dX7_reads_304 rfl ?_
                    refine g_putI dX7_reads_305 tf_7_178 rfl rfl rfl ?_
                    refine g_aload_n dX7_reads_308 rfl ?_
                    refine g_dup dX7_reads_309 rfl ?_
                    refine g_getI dX7_reads_310 tf_7_169 rfl rfl ?_
                    rw [hI_uI_n (by omega), hI_uI_n (by omega), hI_uI_n (by omega), hI_uI_n (by omega), h27]
                    refine g_iconst dX7_reads_313 ⟨by decide, by decide⟩ ?_
                    refine g_iadd dX7_reads_314 rfl ⟨by omega, by omega⟩ ?_
                    refine g_putI dX7_reads_315 tf_7_169 rfl rfl rfl ?_
                    refine g_return dX7_reads_318 rfl ⟨rfl, ?_⟩
                    have hcl : clS (hI σ 16 b) = 0 := by rcases hc with q | q | q <;> omega
                    refine ⟨(((((fr.u (by omega)).u (by omega)).u (by omega)).u (by omega)).u (by omega)), ?_⟩
                    unfold tkS WdM
                    rw [hb, if_neg (by omega)]
                    dsimp only
                    rw [if_pos hcl]
                    refine ⟨?_, ?_, fun h => ⟨?_, ?_⟩⟩
                    · rw [hI_uI_n (by omega), hI_uI_n (by omega), hI_uI_e ⟨by omega, by omega⟩]
                      first
                        | (rw [if_pos (by omega)]; done)
                        | (rw [if_neg (by omega)]; done)
                    · rw [hI_uI_n (by omega), hI_uI_n (by omega), hI_uI_n (by omega), hI_uI_n (by omega), hI_uI_e ⟨by omega, by omega⟩]
                    · rw [hI_uI_n (by omega), hI_uI_e ⟨by omega, by omega⟩]
                    · rw [hI_uI_e ⟨by omega, by omega⟩]
                      show (b : Int) + 1 = ((b + 1 : Nat) : Int)
                      omega
      · refine g_iload_n dX7_reads_92 rfl ?_
        refine g_callsI dX7_reads_93 tm_7_184 rfl ⟨Nat.le_of_ble_eq_true rfl, rfl, rfl⟩ (Nat.le_of_ble_eq_true rfl) (cm_isDigit (by omega) _ _) (fun z93 s93 h93 => ?_)
        obtain ⟨h93, e93⟩ := h93
        obtain rfl := e93.symm
        refine g_istore_n dX7_reads_96 (by decide) rfl ?_
        refine g_aload_n dX7_reads_97 rfl ?_
        refine g_iload_n dX7_reads_98 rfl ?_
        refine g_if_eq (tgt := 106) dX7_reads_99 (by decide) (fun c99 => ?_) (fun c99 => ?_)
        · refine g_iconst dX7_reads_106 ⟨by decide, by decide⟩ ?_
          refine g_putI dX7_reads_107 tf_7_181 rfl rfl rfl ?_
          first
            | (have hcl : clS (hI σ 16 b) = 1 := by rcases hc with q | q | q <;> omega
               refine am_Go.mono (cm_readsB (by omega) σ hf0 hbb n hn hn6 b 1 (rnS (fun j => hI σ 16 j) 1 (n - b) b) _ (by omega) _ (n - b) b (by omega) (by omega) (by omega) rfl (fun i hi => by omega) _ (((fr.u (by omega)).u (by omega)).u (by omega)) ?_ ?_ ?_ ?_) (fun r s2 (h : qV _ r s2) => ⟨h.1, hfin s2 h.2.1 (by omega) 1 hcl (by omega) h.2.2⟩)
               · rw [hI_uI_n (by omega), hI_uI_n (by omega), hI_uI_n (by omega)]; exact h27
               · rw [hI_uI_n (by omega), hI_uI_n (by omega), hI_uI_e ⟨by omega, by omega⟩]
               · exact hI_uI_e ⟨by omega, by omega⟩
               · rw [hI_uI_n (by omega), hI_uI_e ⟨by omega, by omega⟩, Nat.sub_self]; rfl)
            | (have hcl : clS (hI σ 16 b) = 2 := by rcases hc with q | q | q <;> omega
               refine am_Go.mono (cm_readsB (by omega) σ hf0 hbb n hn hn6 b 2 (rnS (fun j => hI σ 16 j) 2 (n - b) b) _ (by omega) _ (n - b) b (by omega) (by omega) (by omega) rfl (fun i hi => by omega) _ (((fr.u (by omega)).u (by omega)).u (by omega)) ?_ ?_ ?_ ?_) (fun r s2 (h : qV _ r s2) => ⟨h.1, hfin s2 h.2.1 (by omega) 2 hcl (by omega) h.2.2⟩)
               · rw [hI_uI_n (by omega), hI_uI_n (by omega), hI_uI_n (by omega)]; exact h27
               · rw [hI_uI_n (by omega), hI_uI_n (by omega), hI_uI_e ⟨by omega, by omega⟩]
               · exact hI_uI_e ⟨by omega, by omega⟩
               · rw [hI_uI_n (by omega), hI_uI_e ⟨by omega, by omega⟩, Nat.sub_self]; rfl)
        · refine g_iconst dX7_reads_102 ⟨by decide, by decide⟩ ?_
          refine g_goto (tgt := 107) dX7_reads_103 (by decide) ?_
          refine g_putI dX7_reads_107 tf_7_181 rfl rfl rfl ?_
          first
            | (have hcl : clS (hI σ 16 b) = 1 := by rcases hc with q | q | q <;> omega
               refine am_Go.mono (cm_readsB (by omega) σ hf0 hbb n hn hn6 b 1 (rnS (fun j => hI σ 16 j) 1 (n - b) b) _ (by omega) _ (n - b) b (by omega) (by omega) (by omega) rfl (fun i hi => by omega) _ (((fr.u (by omega)).u (by omega)).u (by omega)) ?_ ?_ ?_ ?_) (fun r s2 (h : qV _ r s2) => ⟨h.1, hfin s2 h.2.1 (by omega) 1 hcl (by omega) h.2.2⟩)
               · rw [hI_uI_n (by omega), hI_uI_n (by omega), hI_uI_n (by omega)]; exact h27
               · rw [hI_uI_n (by omega), hI_uI_n (by omega), hI_uI_e ⟨by omega, by omega⟩]
               · exact hI_uI_e ⟨by omega, by omega⟩
               · rw [hI_uI_n (by omega), hI_uI_e ⟨by omega, by omega⟩, Nat.sub_self]; rfl)
            | (have hcl : clS (hI σ 16 b) = 2 := by rcases hc with q | q | q <;> omega
               refine am_Go.mono (cm_readsB (by omega) σ hf0 hbb n hn hn6 b 2 (rnS (fun j => hI σ 16 j) 2 (n - b) b) _ (by omega) _ (n - b) b (by omega) (by omega) (by omega) rfl (fun i hi => by omega) _ (((fr.u (by omega)).u (by omega)).u (by omega)) ?_ ?_ ?_ ?_) (fun r s2 (h : qV _ r s2) => ⟨h.1, hfin s2 h.2.1 (by omega) 2 hcl (by omega) h.2.2⟩)
               · rw [hI_uI_n (by omega), hI_uI_n (by omega), hI_uI_n (by omega)]; exact h27
               · rw [hI_uI_n (by omega), hI_uI_n (by omega), hI_uI_e ⟨by omega, by omega⟩]
               · exact hI_uI_e ⟨by omega, by omega⟩
               · rw [hI_uI_n (by omega), hI_uI_e ⟨by omega, by omega⟩, Nat.sub_self]; rfl)
  · refine g_aload_n dX7_reads_62 rfl ?_
    refine g_iconst dX7_reads_63 ⟨by decide, by decide⟩ ?_
    refine g_putI dX7_reads_64 tf_7_181 rfl rfl rfl ?_
    refine g_return dX7_reads_67 rfl ⟨rfl, ?_⟩
    refine ⟨((fr.u (by omega)).u (by omega)).u (by omega), ?_⟩
    unfold tkS WdM
    rw [hb, if_pos (by omega)]
    refine ⟨hI_uI_e ⟨by omega, by omega⟩, ?_, fun _ => ⟨?_, ?_⟩⟩
    · rw [hI_uI_n (by omega), hI_uI_n (by omega), hI_uI_e ⟨by omega, by omega⟩]; show (b : Int) = (n : Int); omega
    · rw [hI_uI_n (by omega), hI_uI_e ⟨by omega, by omega⟩]
    · rw [hI_uI_n (by omega), hI_uI_n (by omega), hI_uI_n (by omega), h27]; show (b : Int) = (n : Int); omega
