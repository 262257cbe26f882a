/-! THE CLASS: text -/
theorem bt_i2b (x : Int) : ((Int32.ofInt x).toInt8.toInt32).toInt = (x + 128) % 256 - 128 := by
  have h1 : ((Int32.ofInt x).toInt8.toInt32).toInt = (Int32.ofInt x).toInt8.toInt := by simp
  have h2 : (Int32.ofInt x).toInt8.toInt = x.bmod 256 := by
    rw [Int32.toInt_toInt8]
    have : (Int32.ofInt x).toInt = x.bmod 4294967296 := Int32.toInt_ofInt ..
    rw [this]
    exact Int.bmod_bmod_of_dvd (by decide)
  rw [h1, h2]
  rw [Int.bmod_def]
  split <;> omega
theorem bt_shrI {x : Int} (hx : rI x) (s : Nat) (hs : s < 32) : (Int32.ofInt x >>> (Int32.ofInt (s : Int) &&& 31)).toInt = x / (2 ^ s : Nat) := by
  have e : ((Int32.ofInt (s : Int) &&& 31).toBitVec.smod 32).toNat = s := by
    rw [bt_n]
    exact bt_sl s hs
  have h1 : (Int32.ofInt x >>> (Int32.ofInt (s : Int) &&& 31)).toBitVec = (Int32.ofInt x).toBitVec.sshiftRight s := by
    rw [Int32.toBitVec_shiftRight]
    show (Int32.ofInt x).toBitVec.sshiftRight' _ = _
    unfold BitVec.sshiftRight'
    rw [e]
  show (Int32.ofInt x >>> (Int32.ofInt (s : Int) &&& 31)).toBitVec.toInt = _
  rw [h1, BitVec.toInt_sshiftRight, Int.shiftRight_eq_div_pow]
  have : (Int32.ofInt x).toBitVec.toInt = x := wI_e hx
  rw [this]
/-- a signed byte -/
def sbS (x : Int) : Int := (x + 128) % 256 - 128
def byC (a b c d e : Int) (k : Nat) : Int := sbS (pkS a b c d e k / (2 ^ (24 - 8 * (k % 4)) : Nat))
def txC (σ : am_HS) (f : Nat → Int) : Nat → am_HS
  | 0 => σ
  | k + 1 => uI (uI (txC σ f k) 9 ((hI σ 4 1).toNat + k) (f k)) 4 1 (hI σ 4 1 + k + 1)
theorem txC_f {σ : am_HS} {f : Nat → Int} : ∀ k, (txC σ f k).2.2 = σ.2.2
  | 0 => rfl
  | k + 1 => txC_f k
theorem txC_1 {σ : am_HS} {f : Nat → Int} (h : 0 ≤ hI σ 4 1 ∧ hI σ 4 1 ≤ 600) : ∀ k, k ≤ 20 → hI (txC σ f k) 4 1 = hI σ 4 1 + (k : Int)
  | 0, _ => by show hI σ 4 1 = hI σ 4 1 + 0; omega
  | k + 1, hk => by
    unfold txC
    rw [hI_uI_e ⟨by omega, by omega⟩]
    omega
theorem cc1_add {D : Nat} (hD : 1 ≤ D) (σ : am_HS) {b : Nat} (hf0 : σ.2.2 = cH b) (hl : 0 ≤ hI σ 4 1 ∧ hI σ 4 1 ≤ 580) (f : Nat → Int) (i : Nat) (hi : i + 4 ≤ 20) (v : Int) (rv : rI v) (hv : ∀ j, j < 4 → f (i + j) = sbS (v / (2 ^ (24 - 8 * j) : Nat))) : am_Do lc D mX1_add (txC σ f i) [vR (some 4), vI v] (qV fun s => s = txC σ f (i + 4)) := by
  obtain ⟨d, rfl⟩ : ∃ d, D = d + 1 := ⟨D - 1, by omega⟩
  refine am_enter rfl rfl (Nat.le_of_ble_eq_true rfl) ?_
  have loop : ∀ (m j : Nat) (t : Int), j + m = 4 → t = 24 - 8 * (j : Int) → am_Go lc d 1 3 0 cX1_add 3 [some (vR (some 4)), some (vI v), some (vI t)] [] (txC σ f (i + j)) (qV fun s => s = txC σ f (i + 4)) := by
    intro m
    induction m with
    | zero =>
      intro j t hj ht
      have ej : j = 4 := by omega
      subst ej
      refine g_iload_n dX1_add_3 rfl ?_
      refine g_if_lt (tgt := 55) dX1_add_4 (by decide) (fun c4 => ?_) (fun c4 => ?_)
      · refine g_return dX1_add_55 rfl ⟨rfl, ?_⟩
        rfl
      · exfalso; omega
    | succ m ih =>
      intro j t hj ht
      have hf := (txC_f (f := f) (σ := σ) (i + j)).trans hf0
      have e1 := txC_1 (f := f) ⟨hl.1, by omega⟩ (i + j) (by omega)
      have ih := ih (j + 1) (t - 8) (by omega) (by omega)
      have e2 : txC σ f (i + (j + 1)) = uI (uI (txC σ f (i + j)) 9 ((hI σ 4 1).toNat + (i + j)) (f (i + j))) 4 1 (hI σ 4 1 + ((i + j : Nat) : Int) + 1) := rfl
      rw [e2] at ih
      have hsh := bt_shrI rv (24 - 8 * j) (by omega)
      rw [show ((24 - 8 * j : Nat) : Int) = t by omega] at hsh
      have hib := bt_i2b (v / (2 ^ (24 - 8 * j) : Nat))
      rw [show (v / (2 ^ (24 - 8 * j) : Nat) + 128) % 256 - 128 = f (i + j) from (hv j (by omega)).symm] at hib
      have hfr : -128 ≤ f (i + j) ∧ f (i + j) ≤ 127 := by rw [hv j (by omega)]; unfold sbS; omega
      refine g_iload_n dX1_add_3 rfl ?_
      refine g_if_lt (tgt := 55) dX1_add_4 (by decide) (fun c4 => ?_) (fun c4 => ?_)
      · exfalso; omega
      · refine g_aload_n dX1_add_7 rfl ?_
        refine g_getI dX1_add_8 tf_1_36 rfl rfl ?_
        refine g_if_lt (tgt := 49) dX1_add_11 (by decide) (fun c11 => ?_) (fun c11 => ?_)
        · exfalso; omega
        · refine g_aload_n dX1_add_14 rfl ?_
          refine g_getI dX1_add_15 tf_1_36 rfl rfl ?_
          refine g_aload_n dX1_add_18 rfl ?_
          refine g_getA dX1_add_19 tf_1_9 rfl rfl (crf hf rfl) ?_
          refine g_alen dX1_add_22 rfl (by decide) ?_
          refine g_icmp_ge (tgt := 49) dX1_add_23 (by decide) (fun c23 => ?_) (fun c23 => ?_)
          · exfalso; omega
          · refine g_aload_n dX1_add_26 rfl ?_
            refine g_getA dX1_add_27 tf_1_9 rfl rfl (crf hf rfl) ?_
            refine g_aload_n dX1_add_30 rfl ?_
            refine g_getI dX1_add_31 tf_1_36 rfl rfl ?_
            refine g_iload_n dX1_add_34 rfl ?_
            refine g_iload_n dX1_add_35 rfl ?_
            refine g_ishr dX1_add_36 hsh ?_
            refine g_i2b dX1_add_37 hib ?_
            refine g_bastN ((hI σ 4 1).toNat + (i + j)) dX1_add_38 rfl (by omega) (by omega) hfr ?_
            refine g_aload_n dX1_add_39 rfl ?_
            refine g_dup dX1_add_40 rfl ?_
            refine g_getI dX1_add_41 tf_1_36 rfl rfl ?_
            rw [hI_uI_n (by omega), e1]
            refine g_iconst dX1_add_44 ⟨by decide, by decide⟩ ?_
            refine g_iadd dX1_add_45 rfl ⟨by omega, by omega⟩ ?_
            refine g_putI dX1_add_46 tf_1_36 rfl rfl rfl ?_
            refine g_iinc dX1_add_49 (by decide) rfl ⟨by omega, by omega⟩ (show t + -8 = t - 8 from by omega) rfl ?_
            refine g_goto (tgt := 3) dX1_add_52 (by decide) ?_
            exact ih
  refine g_bipush dX1_add_0 (by decide) ?_
  refine g_istore_n dX1_add_2 (by decide) rfl ?_
  exact loop 4 0 _ rfl rfl
theorem cc6_text {D : Nat} (hD : 2 ≤ D) (σ : am_HS) {b : Nat} (hf : σ.2.2 = cH b) (hg : GC σ) (h1 : 0 ≤ hI σ 4 1 ∧ hI σ 4 1 ≤ 600) (a b1 c dd e : Int) (ra : rI a) (rb1 : rI b1) (rc : rI c) (rdd : rI dd) (re : rI e) : am_Do lc D mX6_text σ [vR (some 0), vI a, vI b1, vI c, vI dd, vI e] (qI fun z s => (580 < hI σ 4 1 ∧ z = -6 ∧ s = uI σ 8 6 (hI σ 8 6 + 1)) ∨ (hI σ 4 1 ≤ 580 ∧ z = hI σ 4 1 + 20 ∧ s = txC σ (byC a b1 c dd e) 20)) := by
  obtain ⟨hg1, hg2, hrf⟩ := id hg
  have e20 := txC_1 (f := byC a b1 c dd e) h1 20 (by omega)
  obtain ⟨d, rfl⟩ : ∃ d, D = d + 1 := ⟨D - 1, by omega⟩
  refine am_enter rfl rfl (Nat.le_of_ble_eq_true rfl) ?_
  refine g_aload_n dX6_text_0 rfl ?_
  refine g_getA dX6_text_1 tf_6_28 rfl rfl (crf hf rfl) ?_
  refine g_getI dX6_text_4 tf_6_97 rfl rfl ?_
  refine g_sipush dX6_text_7 (by decide) ?_
  refine g_icmp_le (tgt := 20) dX6_text_10 (by decide) (fun c10 => ?_) (fun c10 => ?_)
  · have hl : 0 ≤ hI σ 4 1 ∧ hI σ 4 1 ≤ 580 := by omega
    have hfk := fun k => (txC_f (f := byC a b1 c dd e) (σ := σ) k).trans hf
    change am_Go lc d 6 6 1 cX6_text _ _ _ (txC σ (byC a b1 c dd e) 0) _
    refine g_aload_n dX6_text_20 rfl ?_
    refine g_getA dX6_text_21 tf_6_28 rfl rfl (crf (hfk _) rfl) ?_
    refine g_iload_n dX6_text_24 rfl ?_
    refine g_callvV dX6_text_25 tm_6_100 rfl ⟨rfl, rfl⟩ rfl (Nat.le_of_ble_eq_true rfl) (cc1_add (by omega) σ hf hl (byC a b1 c dd e) 0 (by omega) a ra (fun j hj => by unfold byC pkS; (first | rw [if_pos (by omega)] | rw [if_neg (by omega), if_pos (by omega)] | rw [if_neg (by omega), if_neg (by omega), if_pos (by omega)] | rw [if_neg (by omega), if_neg (by omega), if_neg (by omega), if_pos (by omega)] | rw [if_neg (by omega), if_neg (by omega), if_neg (by omega), if_neg (by omega)]); rw [show (0 + j) % 4 = j by omega])) (fun s25 h25 => ?_)
    obtain rfl := h25
    refine g_aload_n dX6_text_28 rfl ?_
    refine g_getA dX6_text_29 tf_6_28 rfl rfl (crf (hfk _) rfl) ?_
    refine g_iload_n dX6_text_32 rfl ?_
    refine g_callvV dX6_text_33 tm_6_100 rfl ⟨rfl, rfl⟩ rfl (Nat.le_of_ble_eq_true rfl) (cc1_add (by omega) σ hf hl (byC a b1 c dd e) 4 (by omega) b1 rb1 (fun j hj => by unfold byC pkS; (first | rw [if_pos (by omega)] | rw [if_neg (by omega), if_pos (by omega)] | rw [if_neg (by omega), if_neg (by omega), if_pos (by omega)] | rw [if_neg (by omega), if_neg (by omega), if_neg (by omega), if_pos (by omega)] | rw [if_neg (by omega), if_neg (by omega), if_neg (by omega), if_neg (by omega)]); rw [show (4 + j) % 4 = j by omega])) (fun s33 h33 => ?_)
    obtain rfl := h33
    refine g_aload_n dX6_text_36 rfl ?_
    refine g_getA dX6_text_37 tf_6_28 rfl rfl (crf (hfk _) rfl) ?_
    refine g_iload_n dX6_text_40 rfl ?_
    refine g_callvV dX6_text_41 tm_6_100 rfl ⟨rfl, rfl⟩ rfl (Nat.le_of_ble_eq_true rfl) (cc1_add (by omega) σ hf hl (byC a b1 c dd e) 8 (by omega) c rc (fun j hj => by unfold byC pkS; (first | rw [if_pos (by omega)] | rw [if_neg (by omega), if_pos (by omega)] | rw [if_neg (by omega), if_neg (by omega), if_pos (by omega)] | rw [if_neg (by omega), if_neg (by omega), if_neg (by omega), if_pos (by omega)] | rw [if_neg (by omega), if_neg (by omega), if_neg (by omega), if_neg (by omega)]); rw [show (8 + j) % 4 = j by omega])) (fun s41 h41 => ?_)
    obtain rfl := h41
    refine g_aload_n dX6_text_44 rfl ?_
    refine g_getA dX6_text_45 tf_6_28 rfl rfl (crf (hfk _) rfl) ?_
    refine g_iload dX6_text_48 rfl ?_
    refine g_callvV dX6_text_50 tm_6_100 rfl ⟨rfl, rfl⟩ rfl (Nat.le_of_ble_eq_true rfl) (cc1_add (by omega) σ hf hl (byC a b1 c dd e) 12 (by omega) dd rdd (fun j hj => by unfold byC pkS; (first | rw [if_pos (by omega)] | rw [if_neg (by omega), if_pos (by omega)] | rw [if_neg (by omega), if_neg (by omega), if_pos (by omega)] | rw [if_neg (by omega), if_neg (by omega), if_neg (by omega), if_pos (by omega)] | rw [if_neg (by omega), if_neg (by omega), if_neg (by omega), if_neg (by omega)]); rw [show (12 + j) % 4 = j by omega])) (fun s50 h50 => ?_)
    obtain rfl := h50
    refine g_aload_n dX6_text_53 rfl ?_
    refine g_getA dX6_text_54 tf_6_28 rfl rfl (crf (hfk _) rfl) ?_
    refine g_iload dX6_text_57 rfl ?_
    refine g_callvV dX6_text_59 tm_6_100 rfl ⟨rfl, rfl⟩ rfl (Nat.le_of_ble_eq_true rfl) (cc1_add (by omega) σ hf hl (byC a b1 c dd e) 16 (by omega) e re (fun j hj => by unfold byC pkS; (first | rw [if_pos (by omega)] | rw [if_neg (by omega), if_pos (by omega)] | rw [if_neg (by omega), if_neg (by omega), if_pos (by omega)] | rw [if_neg (by omega), if_neg (by omega), if_neg (by omega), if_pos (by omega)] | rw [if_neg (by omega), if_neg (by omega), if_neg (by omega), if_neg (by omega)]); rw [show (16 + j) % 4 = j by omega])) (fun s59 h59 => ?_)
    obtain rfl := h59
    refine g_aload_n dX6_text_62 rfl ?_
    refine g_getA dX6_text_63 tf_6_28 rfl rfl (crf (hfk _) rfl) ?_
    refine g_getI dX6_text_66 tf_6_97 rfl rfl ?_
    rw [e20]
    refine g_ireturn dX6_text_69 (Or.inl rfl) ⟨_, rfl, ?_⟩
    first
      | exact Or.inl ⟨by omega, rfl, rfl⟩
      | exact Or.inr ⟨by omega, rfl, rfl⟩
  · refine g_aload_n dX6_text_13 rfl ?_
    refine g_bipush dX6_text_14 (by decide) ?_
    refine g_callvI dX6_text_16 tm_6_55 rfl ⟨rfl, rfl⟩ rfl (Nat.le_of_ble_eq_true rfl) (cc6_refuse (by omega) σ hf _ ⟨by omega, by omega⟩ hrf) (fun z16 s16 h16 => ?_)
    obtain ⟨rfl, rfl⟩ := h16
    refine g_ireturn dX6_text_19 (Or.inl rfl) ⟨_, rfl, ?_⟩
    first
      | exact Or.inl ⟨by omega, rfl, rfl⟩
      | exact Or.inr ⟨by omega, rfl, rfl⟩

