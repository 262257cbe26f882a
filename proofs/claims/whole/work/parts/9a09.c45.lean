/-! THE JDK: filling a row, counting bits -/
theorem cj_fill {D : Nat} (hD : 1 ≤ D) (σ : am_HS) (o n : Nat) (ho : lc o = .inr (0, n)) (hn : n < 2147483647) (v : Int) (hv : rI v) : am_Do lc D mJ7_fill_53178 σ [vR (some o), vI v] (qV fun s => s.2 = σ.2 ∧ ∀ a j, hI s a j = if a = o ∧ j < n then v else hI σ a j) := by
  obtain ⟨d, rfl⟩ : ∃ d, D = d + 1 := ⟨D - 1, by omega⟩
  refine am_enter rfl rfl (Nat.le_of_ble_eq_true rfl) ?_
  have lp : ∀ (m k : Nat) (s : am_HS), k + m = n → s.2 = σ.2 → (∀ a j, hI s a j = if a = o ∧ j < k then v else hI σ a j) → am_Go lc d 9 4 0 cJ7_fill_53178 5 [some (vR (some o)), some (vI v), some (vI (k : Int)), some (vI (n : Int))] [] s (qV fun s => s.2 = σ.2 ∧ ∀ a j, hI s a j = if a = o ∧ j < n then v else hI σ a j) := by
    intro m
    induction m with
    | zero =>
      intro k s hk h1 h2
      have e : k = n := by omega
      subst e
      refine g_iload_n dJ7_fill_53178_5 rfl ?_
      refine g_iload_n dJ7_fill_53178_6 rfl ?_
      refine g_icmp_ge (tgt := 20) dJ7_fill_53178_7 (by decide) (fun c7 => ?_) (fun c7 => ?_)
      · refine g_return dJ7_fill_53178_20 rfl ⟨rfl, ?_⟩
        exact ⟨h1, h2⟩
      · exfalso; omega
    | succ m ih =>
      intro k s hk h1 h2
      refine g_iload_n dJ7_fill_53178_5 rfl ?_
      refine g_iload_n dJ7_fill_53178_6 rfl ?_
      refine g_icmp_ge (tgt := 20) dJ7_fill_53178_7 (by decide) (fun c7 => ?_) (fun c7 => ?_)
      · exfalso; omega
      · refine g_aload_n dJ7_fill_53178_10 rfl ?_
        refine g_iload_n dJ7_fill_53178_11 rfl ?_
        refine g_iload_n dJ7_fill_53178_12 rfl ?_
        refine g_iastN (k) dJ7_fill_53178_13 ho (by omega) (by omega) ?_
        refine g_iinc dJ7_fill_53178_14 (by decide) rfl ⟨by omega, by omega⟩ (show (k : Int) + 1 = ((k + 1 : Nat) : Int) from by omega) rfl ?_
        refine g_goto (tgt := 5) dJ7_fill_53178_17 (by decide) ?_
        refine ih (k + 1) _ (by omega) h1 (fun a j => ?_)
        by_cases e : a = o ∧ j = k
        · rw [e.1, e.2, hI_uI_e hv, if_pos ⟨rfl, by omega⟩]
        · rw [hI_uI_n e, h2 a j]
          by_cases q : a = o ∧ j < k
          · rw [if_pos q, if_pos ⟨q.1, by omega⟩]
          · rw [if_neg q, if_neg (fun z => by
              by_cases e2 : j = k
              · exact e ⟨z.1, e2⟩
              · exact q ⟨z.1, by omega⟩)]
  refine g_iconst dJ7_fill_53178_0 ⟨by decide, by decide⟩ ?_
  refine g_istore_n dJ7_fill_53178_1 (by decide) rfl ?_
  refine g_aload_n dJ7_fill_53178_2 rfl ?_
  refine g_alen dJ7_fill_53178_3 ho ⟨by decide, by omega⟩ ?_
  refine g_istore_n dJ7_fill_53178_4 (by decide) rfl ?_
  exact lp n 0 σ (by omega) rfl (fun a j => (if_neg (fun z => absurd z.2 (Nat.not_lt_zero j))).symm)
def ush (x k : Int) : Int := (((Int32.ofInt x).toUInt32 >>> ((Int32.ofInt k).toUInt32 &&& Int32.toUInt32 31)).toInt32).toInt
def ian (x y : Int) : Int := (Int32.ofInt x &&& Int32.ofInt y).toInt
def bc1 (x : Int) : Int := wI (x - ian (ush x 1) 1431655765)
def bc2 (x : Int) : Int := wI (ian x 858993459 + ian (ush x 2) 858993459)
def bc3 (x : Int) : Int := ian (wI (x + ush x 4)) 252645135
def bc4 (x : Int) : Int := wI (x + ush x 8)
def bc5 (x : Int) : Int := wI (x + ush x 16)
def bcF (x : Int) : Int := ian (bc5 (bc4 (bc3 (bc2 (bc1 x))))) 63
theorem bc_val : ∀ n : Nat, n < 1024 → bcF (n : Int) = (cntB (fun i => n.testBit i) 10 : Int) := by decide +kernel
theorem cj_bits {D : Nat} (hD : 1 ≤ D) (σ : am_HS) (n : Nat) (hn : n < 1024) : am_Do lc D mJ6_bitCount_0f7a4 σ [vI (n : Int)] (qI fun z s => z = (cntB (fun i => n.testBit i) 10 : Int) ∧ s = σ) := by
  obtain ⟨d, rfl⟩ : ∃ d, D = d + 1 := ⟨D - 1, by omega⟩
  refine am_enter rfl rfl (Nat.le_of_ble_eq_true rfl) ?_
  refine g_iload_n dJ6_bitCount_0f7a4_0 rfl ?_
  refine g_iload_n dJ6_bitCount_0f7a4_1 rfl ?_
  refine g_iconst dJ6_bitCount_0f7a4_2 ⟨by decide, by decide⟩ ?_
  refine g_iushr dJ6_bitCount_0f7a4_3 rfl ?_
  refine g_ldcw dJ6_bitCount_0f7a4_4 ti_8_265 ⟨by decide, by decide⟩ ?_
  refine g_iand dJ6_bitCount_0f7a4_7 rfl ?_
  refine g_isubW dJ6_bitCount_0f7a4_8 ?_
  refine g_istore_n dJ6_bitCount_0f7a4_9 (by decide) rfl ?_
  refine g_iload_n dJ6_bitCount_0f7a4_10 rfl ?_
  refine g_ldcw dJ6_bitCount_0f7a4_11 ti_8_266 ⟨by decide, by decide⟩ ?_
  refine g_iand dJ6_bitCount_0f7a4_14 rfl ?_
  refine g_iload_n dJ6_bitCount_0f7a4_15 rfl ?_
  refine g_iconst dJ6_bitCount_0f7a4_16 ⟨by decide, by decide⟩ ?_
  refine g_iushr dJ6_bitCount_0f7a4_17 rfl ?_
  refine g_ldcw dJ6_bitCount_0f7a4_18 ti_8_266 ⟨by decide, by decide⟩ ?_
  refine g_iand dJ6_bitCount_0f7a4_21 rfl ?_
  refine g_iaddW dJ6_bitCount_0f7a4_22 ?_
  refine g_istore_n dJ6_bitCount_0f7a4_23 (by decide) rfl ?_
  refine g_iload_n dJ6_bitCount_0f7a4_24 rfl ?_
  refine g_iload_n dJ6_bitCount_0f7a4_25 rfl ?_
  refine g_iconst dJ6_bitCount_0f7a4_26 ⟨by decide, by decide⟩ ?_
  refine g_iushr dJ6_bitCount_0f7a4_27 rfl ?_
  refine g_iaddW dJ6_bitCount_0f7a4_28 ?_
  refine g_ldcw dJ6_bitCount_0f7a4_29 ti_8_267 ⟨by decide, by decide⟩ ?_
  refine g_iand dJ6_bitCount_0f7a4_32 rfl ?_
  refine g_istore_n dJ6_bitCount_0f7a4_33 (by decide) rfl ?_
  refine g_iload_n dJ6_bitCount_0f7a4_34 rfl ?_
  refine g_iload_n dJ6_bitCount_0f7a4_35 rfl ?_
  refine g_bipush dJ6_bitCount_0f7a4_36 (by decide) ?_
  refine g_iushr dJ6_bitCount_0f7a4_38 rfl ?_
  refine g_iaddW dJ6_bitCount_0f7a4_39 ?_
  refine g_istore_n dJ6_bitCount_0f7a4_40 (by decide) rfl ?_
  refine g_iload_n dJ6_bitCount_0f7a4_41 rfl ?_
  refine g_iload_n dJ6_bitCount_0f7a4_42 rfl ?_
  refine g_bipush dJ6_bitCount_0f7a4_43 (by decide) ?_
  refine g_iushr dJ6_bitCount_0f7a4_45 rfl ?_
  refine g_iaddW dJ6_bitCount_0f7a4_46 ?_
  refine g_istore_n dJ6_bitCount_0f7a4_47 (by decide) rfl ?_
  refine g_iload_n dJ6_bitCount_0f7a4_48 rfl ?_
  refine g_bipush dJ6_bitCount_0f7a4_49 (by decide) ?_
  refine g_iand dJ6_bitCount_0f7a4_51 rfl ?_
  refine g_ireturn dJ6_bitCount_0f7a4_52 (Or.inl rfl) ⟨_, rfl, ?_⟩
  exact ⟨bc_val n hn, rfl⟩
/-! THE CLASS: the works that may still get a mark -/
def oeC (σ : am_HS) (p w : Nat) : Prop := hI σ (47 + 4 * (10 * p + w)) 1 = 0 ∧ ¬ (0 ≤ lmC σ (10 * p + w) ∨ 0 < shC σ (10 * p + w))
theorem or_lt10 {a b : Nat} (ha : a < 1024) (hb : b < 1024) : a ||| b < 1024 := Nat.or_lt_two_pow (n := 10) ha hb
theorem pow_lt10 {m : Nat} (h : m < 10) : 2 ^ m < 1024 := show 2 ^ m < 2 ^ 10 from Nat.pow_lt_pow_right (by decide) h
theorem and1023 {G : Nat} (hG : G < 1024) : G &&& 1023 = G := by
  rw [show 1023 = 2 ^ 10 - 1 from rfl, Nat.and_two_pow_sub_one_eq_mod]
  exact Nat.mod_eq_of_lt hG
theorem cc6_openEnded {D : Nat} (hD : 4 ≤ D) (σ : am_HS) {b : Nat} (hf : σ.2.2 = cH b) (hg : GC σ) (hb : rgC σ) (W : Nat) (hW : hI σ 0 8 = (W : Int)) (p : Nat) (hp : (p : Int) < hI σ 0 7) : am_Do lc D mX6_openEnded σ [vR (some 0), vI (p : Int)] (qI fun z s => (∃ G : Nat, z = (G : Int) ∧ G < 1024 ∧ ∀ w, hasB G w ↔ w < W ∧ oeC σ p w) ∧ s = σ) := by
  obtain ⟨d, rfl⟩ : ∃ d, D = d + 1 := ⟨D - 1, by omega⟩
  refine am_enter rfl rfl (Nat.le_of_ble_eq_true rfl) ?_
  obtain ⟨g1, g2, g3⟩ := id hg
  have lp : ∀ (m k G : Nat) (o4 : Option am_V), k + m = W → G < 1024 → (∀ w, hasB G w ↔ w < k ∧ oeC σ p w) → am_Go lc d 6 5 1 cX6_openEnded 4 [some (vR (some 0)), some (vI (p : Int)), some (vI (G : Int)), some (vI (k : Int)), o4] [] σ (qI fun z s => (∃ G : Nat, z = (G : Int) ∧ G < 1024 ∧ ∀ w, hasB G w ↔ w < W ∧ oeC σ p w) ∧ s = σ) := by
    intro m
    induction m with
    | zero =>
      intro k G o4 hk hG hU
      have e : k = W := by omega
      subst e
      have h1023 : (Int32.ofInt (G : Int) &&& Int32.ofInt 1023).toInt = (G : Int) := by
        have := bt_and (a := G) (b := 1023) (by omega)
        rw [and1023 hG] at this
        exact this
      refine g_iload_n dX6_openEnded_4 rfl ?_
      refine g_aload_n dX6_openEnded_5 rfl ?_
      refine g_getI dX6_openEnded_6 tf_6_64 rfl rfl ?_
      refine g_icmp_ge (tgt := 53) dX6_openEnded_9 (by decide) (fun c9 => ?_) (fun c9 => ?_)
      · refine g_iload_n dX6_openEnded_53 rfl ?_
        refine g_sipush dX6_openEnded_54 (by decide) ?_
        refine g_iand dX6_openEnded_57 h1023 ?_
        refine g_ireturn dX6_openEnded_58 (Or.inl rfl) ⟨_, rfl, ?_⟩
        exact ⟨⟨G, rfl, hG, hU⟩, rfl⟩
      · exfalso; omega
    | succ m ih =>
      intro k G o4 hk hG hU
      have hk10 : k < 10 := by omega
      have hpw := pow_lt10 hk10
      have hk60 : 10 * p + k < 60 := by omega
      have hskip : ¬ oeC σ p k → ∀ w, hasB G w ↔ w < k + 1 ∧ oeC σ p w := fun hno w => (hU w).trans (by
        constructor
        · exact fun h => ⟨by omega, h.2⟩
        · rintro ⟨h1, h2⟩
          by_cases e : w = k
          · subst e; exact absurd h2 hno
          · exact ⟨by omega, h2⟩)
      refine g_iload_n dX6_openEnded_4 rfl ?_
      refine g_aload_n dX6_openEnded_5 rfl ?_
      refine g_getI dX6_openEnded_6 tf_6_64 rfl rfl ?_
      refine g_icmp_ge (tgt := 53) dX6_openEnded_9 (by decide) (fun c9 => ?_) (fun c9 => ?_)
      · exfalso; omega
      · refine g_aload_n dX6_openEnded_12 rfl ?_
        refine g_iload_n dX6_openEnded_13 rfl ?_
        refine g_iload_n dX6_openEnded_14 rfl ?_
        refine g_callvR dX6_openEnded_15 tm_6_83 rfl ⟨rfl, rfl⟩ rfl (Nat.le_of_ble_eq_true rfl) (cc6_sheetOf (by omega) σ hf hg _ _) (fun z15 s15 h15 => ?_)
        obtain ⟨h15, e15⟩ := h15
        obtain rfl := e15.symm
        have hz15 : z15 = some (47 + 4 * (10 * p + k)) := by
          rcases h15 with ⟨z1, z2⟩ | ⟨z1, z2⟩
          · rw [z2, show (10 * (p : Int) + (k : Int)).toNat = 10 * p + k by omega]
          · exact absurd (show (0 : Int) ≤ (p : Int) ∧ (p : Int) < hI σ 0 7 ∧ (0 : Int) ≤ (k : Int) ∧ (k : Int) < hI σ 0 8 from ⟨by omega, by omega, by omega, by omega⟩) z1
        clear h15
        subst hz15
        refine g_astore dX6_openEnded_18 (by decide) rfl ?_
        refine g_aload dX6_openEnded_20 rfl ?_
        refine g_ifnull (tgt := 47) dX6_openEnded_22 (by decide) (fun c22 => ?_) (fun c22 => ?_)
        · cases c22
        · refine g_aload dX6_openEnded_25 rfl ?_
          refine g_getZ dX6_openEnded_27 tf_6_90 (lc_s hk60) rfl ?_
          refine g_if_ne (tgt := 47) dX6_openEnded_30 (by decide) (fun c30 => ?_) (fun c30 => ?_)
          · have hst : ¬ oeC σ p k := fun z => c30 z.1
            refine g_iinc dX6_openEnded_47 (by decide) rfl ⟨by omega, by omega⟩ (show (k : Int) + 1 = ((k + 1 : Nat) : Int) from by omega) rfl ?_
            refine g_goto (tgt := 4) dX6_openEnded_50 (by decide) ?_
            exact ih (k + 1) G _ (by omega) hG (hskip hst)
          · refine g_aload dX6_openEnded_33 rfl ?_
            refine g_callvI dX6_openEnded_35 tm_6_217 rfl ⟨rfl, rfl⟩ (lc_s hk60) (Nat.le_of_ble_eq_true rfl) (cc3_isMarked (by omega) σ hf hk60) (fun z35 s35 h35 => ?_)
            obtain ⟨h35, e35⟩ := h35
            obtain rfl := e35.symm
            refine g_if_ne (tgt := 47) dX6_openEnded_38 (by decide) (fun c38 => ?_) (fun c38 => ?_)
            · have hst : ¬ oeC σ p k := fun z => h35.elim (fun w => z.2 w.2) (fun w => by omega)
              refine g_iinc dX6_openEnded_47 (by decide) rfl ⟨by omega, by omega⟩ (show (k : Int) + 1 = ((k + 1 : Nat) : Int) from by omega) rfl ?_
              refine g_goto (tgt := 4) dX6_openEnded_50 (by decide) ?_
              exact ih (k + 1) G _ (by omega) hG (hskip hst)
            · have hyes : oeC σ p k := ⟨by omega, h35.elim (fun w => by omega) (fun w => w.2)⟩
              refine g_iload_n dX6_openEnded_41 rfl ?_
              refine g_iconst dX6_openEnded_42 ⟨by decide, by decide⟩ ?_
              refine g_iload_n dX6_openEnded_43 rfl ?_
              refine g_ishl dX6_openEnded_44 (bt_shl1 (by omega)) ?_
              refine g_ior dX6_openEnded_45 (bt_or (by omega) (by omega)) ?_
              refine g_istore_n dX6_openEnded_46 (by decide) rfl ?_
              refine g_iinc dX6_openEnded_47 (by decide) rfl ⟨by omega, by omega⟩ (show (k : Int) + 1 = ((k + 1 : Nat) : Int) from by omega) rfl ?_
              refine g_goto (tgt := 4) dX6_openEnded_50 (by decide) ?_
              refine ih (k + 1) (G ||| 2 ^ k) _ (by omega) (or_lt10 hG hpw) (fun w => ?_)
              rw [or_bit, pow_bit, hU w]
              constructor
              · rintro (h | rfl)
                · exact ⟨by omega, h.2⟩
                · exact ⟨by omega, hyes⟩
              · rintro ⟨h1, h2⟩
                by_cases e : w = k
                · exact Or.inr e
                · exact Or.inl ⟨by omega, h2⟩
  refine g_iconst dX6_openEnded_0 ⟨by decide, by decide⟩ ?_
  refine g_istore_n dX6_openEnded_1 (by decide) rfl ?_
  refine g_iconst dX6_openEnded_2 ⟨by decide, by decide⟩ ?_
  refine g_istore_n dX6_openEnded_3 (by decide) rfl ?_
  refine lp W 0 0 _ (by omega) (by decide) (fun w => ⟨fun h => ?_, fun h => absurd h.1 (Nat.not_lt_zero w)⟩)
  unfold hasB at h
  rw [Nat.zero_testBit] at h
  cases h
