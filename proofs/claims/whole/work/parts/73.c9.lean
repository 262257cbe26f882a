/-! THE CLASS: words of a text -/
section WRAP
variable {lay : am_L} {d c nL rt : Nat} {bb : ByteArray} {pc : Nat} {lv : am_LV} {st r : List am_V} {σ : am_HS} {Q : Option am_V → am_HS → Prop}
theorem g_iaddW {x y : Int} (hd : decode bb pc = .ok (.iadd, 1)) (h : am_Go lay d c nL rt bb (pc + 1) lv (vI (wI (x + y)) :: st) σ Q) : am_Go lay d c nL rt bb pc lv (vI y :: vI x :: st) σ Q := by
  obtain ⟨r0, σ1, hq, m, hn⟩ := h
  refine ⟨r0, σ1, hq, m + 1, ?_⟩
  unfold am_gi
  rw [hd]
  exact ⟨rfl, hn⟩
theorem g_imulW {x y : Int} (hd : decode bb pc = .ok (.imul, 1)) (h : am_Go lay d c nL rt bb (pc + 1) lv (vI (wI (x * y)) :: st) σ Q) : am_Go lay d c nL rt bb pc lv (vI y :: vI x :: st) σ Q := by
  obtain ⟨r0, σ1, hq, m, hn⟩ := h
  refine ⟨r0, σ1, hq, m + 1, ?_⟩
  unfold am_gi
  rw [hd]
  exact ⟨rfl, hn⟩
end WRAP
/-- the kind of a byte -/
def kdC (b : Int) : Int := if 48 ≤ b ∧ b ≤ 57 then 1000 else if 97 ≤ b ∧ b ≤ 122 then 1001 else b
theorem kd_r {b : Int} (hb : -128 ≤ b ∧ b ≤ 127) : (clS (b % 256) = 1 ∧ kdC b = 1000 ∧ 48 ≤ b ∧ b ≤ 57 ∧ b % 256 = b) ∨ (clS (b % 256) = 2 ∧ kdC b = 1001 ∧ 97 ≤ b ∧ b ≤ 122 ∧ b % 256 = b) ∨ (clS (b % 256) = 0 ∧ kdC b = b ∧ ¬ (48 ≤ b ∧ b ≤ 57) ∧ ¬ (97 ≤ b ∧ b ≤ 122)) := by
  have h := clS_r (b % 256)
  unfold kdC
  by_cases h1 : 48 ≤ b ∧ b ≤ 57
  · rw [if_pos h1]; left; omega
  · rw [if_neg h1]
    by_cases h2 : 97 ≤ b ∧ b ≤ 122
    · rw [if_pos h2]; right; left; omega
    · rw [if_neg h2]; right; right; omega
/-- what a word's bytes make, with wrapping -/
def mdC (f : Nat → Int) (kd : Int) (a : Nat) : Nat → Int
  | 0 => 0
  | j + 1 => if kd = 1000 then wI (wI (wI (mdC f kd a j * 10) + f (a + j)) - 48) else wI (wI (wI (wI (mdC f kd a j * 27) + f (a + j)) - 97) + 1)
theorem mdC_s (f : Nat → Int) (kd : Int) (a j : Nat) : mdC f kd a (j + 1) = if kd = 1000 then wI (wI (wI (mdC f kd a j * 10) + f (a + j)) - 48) else wI (wI (wI (wI (mdC f kd a j * 27) + f (a + j)) - 97) + 1) := rfl
theorem mdC_r (f : Nat → Int) (kd : Int) (a j : Nat) : rI (mdC f kd a j) := by
  cases j with
  | zero => exact ⟨(by show (-2147483648 : Int) ≤ 0; decide), (by show (0 : Int) ≤ 2147483647; decide)⟩
  | succ j =>
    rw [mdC_s]
    split
    · exact wI_r _
    · exact wI_r _
theorem mdC_e {f tx : Nat → Int} {kd : Int} {k a : Nat} (hk : k = 1 ∧ kd = 1000 ∨ k = 2 ∧ kd = 1001) : ∀ j, j ≤ 4 → (∀ i, i < j → clS (tx (a + i)) = k ∧ f (a + i) = tx (a + i)) → mdC f kd a j = wdS tx k a j
  | 0, _, _ => rfl
  | j + 1, hj, h => by
    have ih := mdC_e hk j (by omega) (fun i hi => h i (by omega))
    have hr := wdS_r (tx := tx) (k := k) (a := a) (by omega) j (fun i hi => (h i (by omega)).1)
    obtain ⟨hc, he⟩ := h j (by omega)
    have g2 := Nat.pow_le_pow_right (n := 27) (by decide) (show j ≤ 3 by omega)
    have g3 : (27 : Nat) ^ 3 = 19683 := by decide
    rw [g3] at g2
    have hc2 := clS_r (tx (a + j))
    rw [mdC_s, ih, he]
    rw [show wdS tx k a (j + 1) = if k = 1 then 10 * wdS tx k a j + tx (a + j) - 48 else 27 * wdS tx k a j + tx (a + j) - 96 from rfl]
    generalize wdS tx k a j = w at *
    generalize tx (a + j) = x at *
    rcases hk with ⟨rfl, rfl⟩ | ⟨rfl, rfl⟩
    · rw [if_pos rfl, if_pos rfl]
      have e1 : wI (w * 10) = w * 10 := wI_e ⟨by omega, by omega⟩
      rw [e1]
      have e2 : wI (w * 10 + x) = w * 10 + x := wI_e ⟨by omega, by omega⟩
      rw [e2, wI_e ⟨by omega, by omega⟩]
      omega
    · rw [if_neg (by decide), if_neg (by decide)]
      have e1 : wI (w * 27) = w * 27 := wI_e ⟨by omega, by omega⟩
      rw [e1]
      have e2 : wI (w * 27 + x) = w * 27 + x := wI_e ⟨by omega, by omega⟩
      rw [e2]
      have e3 : wI (w * 27 + x - 97) = w * 27 + x - 97 := wI_e ⟨by omega, by omega⟩
      rw [e3, wI_e ⟨by omega, by omega⟩]
      omega
theorem cc1_kindAt {D : Nat} (hD : 1 ≤ D) (σ : am_HS) {b : Nat} (hf : σ.2.2 = cH b) (i : Nat) (hi : i < 600) : am_Do lc D mX1_kindAt σ [vR (some 4), vI (i : Int)] (qI fun z s => z = kdC (hI σ 9 i) ∧ s = σ) := by
  obtain ⟨d, rfl⟩ : ∃ d, D = d + 1 := ⟨D - 1, by omega⟩
  refine am_enter rfl rfl (Nat.le_of_ble_eq_true rfl) ?_
  refine g_iload_n dX1_kindAt_0 rfl ?_
  refine g_if_lt (tgt := 22) dX1_kindAt_1 (by decide) (fun c1 => ?_) (fun c1 => ?_)
  · exfalso; omega
  · refine g_iload_n dX1_kindAt_4 rfl ?_
    refine g_aload_n dX1_kindAt_5 rfl ?_
    refine g_getA dX1_kindAt_6 tf_1_9 rfl rfl (crf hf rfl) ?_
    refine g_alen dX1_kindAt_9 rfl (by decide) ?_
    refine g_icmp_ge (tgt := 22) dX1_kindAt_10 (by decide) (fun c10 => ?_) (fun c10 => ?_)
    · exfalso; omega
    · refine g_aload_n dX1_kindAt_13 rfl ?_
      refine g_getA dX1_kindAt_14 tf_1_9 rfl rfl (crf hf rfl) ?_
      refine g_iload_n dX1_kindAt_17 rfl ?_
      refine g_baldN (i) dX1_kindAt_18 rfl (by omega) (by omega) ?_
      refine g_goto (tgt := 23) dX1_kindAt_19 (by decide) ?_
      refine g_istore_n dX1_kindAt_23 (by decide) rfl ?_
      refine g_iload_n dX1_kindAt_24 rfl ?_
      refine g_bipush dX1_kindAt_25 (by decide) ?_
      refine g_icmp_lt (tgt := 40) dX1_kindAt_27 (by decide) (fun c27 => ?_) (fun c27 => ?_)
      · refine g_iload_n dX1_kindAt_40 rfl ?_
        refine g_bipush dX1_kindAt_41 (by decide) ?_
        refine g_icmp_lt (tgt := 58) dX1_kindAt_43 (by decide) (fun c43 => ?_) (fun c43 => ?_)
        · refine g_iload_n dX1_kindAt_58 rfl ?_
          refine g_ireturn dX1_kindAt_59 (Or.inl rfl) ⟨_, rfl, ?_⟩
          refine ⟨?_, rfl⟩
          unfold kdC
          first
            | (rw [if_pos ⟨by omega, by omega⟩]; done)
            | (rw [if_neg (by omega), if_pos ⟨by omega, by omega⟩]; done)
            | (rw [if_neg (by omega), if_neg (by omega)]; done)
        · refine g_iload_n dX1_kindAt_46 rfl ?_
          refine g_bipush dX1_kindAt_47 (by decide) ?_
          refine g_icmp_gt (tgt := 58) dX1_kindAt_49 (by decide) (fun c49 => ?_) (fun c49 => ?_)
          · refine g_iload_n dX1_kindAt_58 rfl ?_
            refine g_ireturn dX1_kindAt_59 (Or.inl rfl) ⟨_, rfl, ?_⟩
            refine ⟨?_, rfl⟩
            unfold kdC
            first
              | (rw [if_pos ⟨by omega, by omega⟩]; done)
              | (rw [if_neg (by omega), if_pos ⟨by omega, by omega⟩]; done)
              | (rw [if_neg (by omega), if_neg (by omega)]; done)
          · refine g_sipush dX1_kindAt_52 (by decide) ?_
            refine g_goto (tgt := 59) dX1_kindAt_55 (by decide) ?_
            refine g_ireturn dX1_kindAt_59 (Or.inl rfl) ⟨_, rfl, ?_⟩
            refine ⟨?_, rfl⟩
            unfold kdC
            first
              | (rw [if_pos ⟨by omega, by omega⟩]; done)
              | (rw [if_neg (by omega), if_pos ⟨by omega, by omega⟩]; done)
              | (rw [if_neg (by omega), if_neg (by omega)]; done)
      · refine g_iload_n dX1_kindAt_30 rfl ?_
        refine g_bipush dX1_kindAt_31 (by decide) ?_
        refine g_icmp_gt (tgt := 40) dX1_kindAt_33 (by decide) (fun c33 => ?_) (fun c33 => ?_)
        · refine g_iload_n dX1_kindAt_40 rfl ?_
          refine g_bipush dX1_kindAt_41 (by decide) ?_
          refine g_icmp_lt (tgt := 58) dX1_kindAt_43 (by decide) (fun c43 => ?_) (fun c43 => ?_)
          · refine g_iload_n dX1_kindAt_58 rfl ?_
            refine g_ireturn dX1_kindAt_59 (Or.inl rfl) ⟨_, rfl, ?_⟩
            refine ⟨?_, rfl⟩
            unfold kdC
            first
              | (rw [if_pos ⟨by omega, by omega⟩]; done)
              | (rw [if_neg (by omega), if_pos ⟨by omega, by omega⟩]; done)
              | (rw [if_neg (by omega), if_neg (by omega)]; done)
          · refine g_iload_n dX1_kindAt_46 rfl ?_
            refine g_bipush dX1_kindAt_47 (by decide) ?_
            refine g_icmp_gt (tgt := 58) dX1_kindAt_49 (by decide) (fun c49 => ?_) (fun c49 => ?_)
            · refine g_iload_n dX1_kindAt_58 rfl ?_
              refine g_ireturn dX1_kindAt_59 (Or.inl rfl) ⟨_, rfl, ?_⟩
              refine ⟨?_, rfl⟩
              unfold kdC
              first
                | (rw [if_pos ⟨by omega, by omega⟩]; done)
                | (rw [if_neg (by omega), if_pos ⟨by omega, by omega⟩]; done)
                | (rw [if_neg (by omega), if_neg (by omega)]; done)
            · refine g_sipush dX1_kindAt_52 (by decide) ?_
              refine g_goto (tgt := 59) dX1_kindAt_55 (by decide) ?_
              refine g_ireturn dX1_kindAt_59 (Or.inl rfl) ⟨_, rfl, ?_⟩
              refine ⟨?_, rfl⟩
              unfold kdC
              first
                | (rw [if_pos ⟨by omega, by omega⟩]; done)
                | (rw [if_neg (by omega), if_pos ⟨by omega, by omega⟩]; done)
                | (rw [if_neg (by omega), if_neg (by omega)]; done)
        · refine g_sipush dX1_kindAt_36 (by decide) ?_
          refine g_ireturn dX1_kindAt_39 (Or.inl rfl) ⟨_, rfl, ?_⟩
          refine ⟨?_, rfl⟩
          unfold kdC
          first
            | (rw [if_pos ⟨by omega, by omega⟩]; done)
            | (rw [if_neg (by omega), if_pos ⟨by omega, by omega⟩]; done)
            | (rw [if_neg (by omega), if_neg (by omega)]; done)

theorem cc1_putWord {D : Nat} (hD : 1 ≤ D) (σ : am_HS) {b : Nat} (hf : σ.2.2 = cH b) (i : Nat) (hi : i < 601) (kd : Int) (a e : Nat) (hae : a ≤ e) (he : e ≤ 600) : am_Do lc D mX1_putWord σ [vR (some 4), vI (i : Int), vI kd, vI (a : Int), vI (e : Int)] (qV fun s => s = uI (uI (uI σ 10 i kd) 11 i (mdC (fun j => hI σ 9 j) kd a (e - a))) 12 i (a : Int)) := by
  obtain ⟨d, rfl⟩ : ∃ d, D = d + 1 := ⟨D - 1, by omega⟩
  refine am_enter rfl rfl (Nat.le_of_ble_eq_true rfl) ?_
  have loop : ∀ (m j : Nat) (t u : Int), a + j + m = e → u = (a + j : Nat) → t = mdC (fun j => hI σ 9 j) kd a j → am_Go lc d 1 7 0 cX1_putWord 38 [some (vR (some 4)), some (vI (i : Int)), some (vI kd), some (vI (a : Int)), some (vI (e : Int)), some (vI t), some (vI u)] [] σ (qV fun s => s = uI (uI (uI σ 10 i kd) 11 i (mdC (fun j => hI σ 9 j) kd a (e - a))) 12 i (a : Int)) := by
    intro m
    induction m with
    | zero =>
      intro j t u hj hu ht
      have ej : j = e - a := by omega
      subst ej
      refine g_iload dX1_putWord_38 rfl ?_
      refine g_if_lt (tgt := 112) dX1_putWord_40 (by decide) (fun c40 => ?_) (fun c40 => ?_)
      · exfalso; omega
      · refine g_iload dX1_putWord_43 rfl ?_
        refine g_iload dX1_putWord_45 rfl ?_
        refine g_icmp_ge (tgt := 112) dX1_putWord_47 (by decide) (fun c47 => ?_) (fun c47 => ?_)
        · refine g_aload_n dX1_putWord_112 rfl ?_
          refine g_getA dX1_putWord_113 tf_1_22 rfl rfl (crf hf rfl) ?_
          refine g_iload_n dX1_putWord_116 rfl ?_
          refine g_iload_n dX1_putWord_117 rfl ?_
          refine g_iastN (i) dX1_putWord_118 rfl (by omega) (by omega) ?_
          refine g_aload_n dX1_putWord_119 rfl ?_
          refine g_getA dX1_putWord_120 tf_1_26 rfl rfl (crf hf rfl) ?_
          refine g_iload_n dX1_putWord_123 rfl ?_
          refine g_iload dX1_putWord_124 rfl ?_
          refine g_iastN (i) dX1_putWord_126 rfl (by omega) (by omega) ?_
          refine g_aload_n dX1_putWord_127 rfl ?_
          refine g_getA dX1_putWord_128 tf_1_29 rfl rfl (crf hf rfl) ?_
          refine g_iload_n dX1_putWord_131 rfl ?_
          refine g_iload_n dX1_putWord_132 rfl ?_
          refine g_iastN (i) dX1_putWord_133 rfl (by omega) (by omega) ?_
          refine g_return dX1_putWord_134 rfl ⟨rfl, ?_⟩
          rw [ht]
        · exfalso; omega
    | succ m ih =>
      intro j t u hj hu ht
      have hs := mdC_s (fun j => hI σ 9 j) kd a j
      refine g_iload dX1_putWord_38 rfl ?_
      refine g_if_lt (tgt := 112) dX1_putWord_40 (by decide) (fun c40 => ?_) (fun c40 => ?_)
      · exfalso; omega
      · refine g_iload dX1_putWord_43 rfl ?_
        refine g_iload dX1_putWord_45 rfl ?_
        refine g_icmp_ge (tgt := 112) dX1_putWord_47 (by decide) (fun c47 => ?_) (fun c47 => ?_)
        · exfalso; omega
        · refine g_iload dX1_putWord_50 rfl ?_
          refine g_aload_n dX1_putWord_52 rfl ?_
          refine g_getA dX1_putWord_53 tf_1_9 rfl rfl (crf hf rfl) ?_
          refine g_alen dX1_putWord_56 rfl (by decide) ?_
          refine g_icmp_ge (tgt := 112) dX1_putWord_57 (by decide) (fun c57 => ?_) (fun c57 => ?_)
          · exfalso; omega
          · refine g_iload_n dX1_putWord_60 rfl ?_
            refine g_sipush dX1_putWord_61 (by decide) ?_
            refine g_icmp_ne (tgt := 86) dX1_putWord_64 (by decide) (fun c64 => ?_) (fun c64 => ?_)
            · refine g_iload dX1_putWord_86 rfl ?_
              refine g_bipush dX1_putWord_88 (by decide) ?_
              refine g_imulW dX1_putWord_90 ?_
              refine g_aload_n dX1_putWord_91 rfl ?_
              refine g_getA dX1_putWord_92 tf_1_9 rfl rfl (crf hf rfl) ?_
              refine g_iload dX1_putWord_95 rfl ?_
              refine g_baldN (a + j) dX1_putWord_97 rfl (by omega) (by omega) ?_
              refine g_iaddW dX1_putWord_98 ?_
              refine g_bipush dX1_putWord_99 (by decide) ?_
              refine g_isubW dX1_putWord_101 ?_
              refine g_iconst dX1_putWord_102 ⟨by decide, by decide⟩ ?_
              refine g_iaddW dX1_putWord_103 ?_
              refine g_istore dX1_putWord_104 (by decide) rfl ?_
              refine g_iinc dX1_putWord_106 (by decide) rfl ⟨by omega, by omega⟩ rfl rfl ?_
              refine g_goto (tgt := 38) dX1_putWord_109 (by decide) ?_
              exact ih (j + 1) _ _ (by omega) (by omega) (by rw [hs]; first | (rw [if_pos (by omega), ht]) | (rw [if_neg (by omega), ht]))
            · refine g_iload dX1_putWord_67 rfl ?_
              refine g_bipush dX1_putWord_69 (by decide) ?_
              refine g_imulW dX1_putWord_71 ?_
              refine g_aload_n dX1_putWord_72 rfl ?_
              refine g_getA dX1_putWord_73 tf_1_9 rfl rfl (crf hf rfl) ?_
              refine g_iload dX1_putWord_76 rfl ?_
              refine g_baldN (a + j) dX1_putWord_78 rfl (by omega) (by omega) ?_
              refine g_iaddW dX1_putWord_79 ?_
              refine g_bipush dX1_putWord_80 (by decide) ?_
              refine g_isubW dX1_putWord_82 ?_
              refine g_goto (tgt := 104) dX1_putWord_83 (by decide) ?_
              refine g_istore dX1_putWord_104 (by decide) rfl ?_
              refine g_iinc dX1_putWord_106 (by decide) rfl ⟨by omega, by omega⟩ rfl rfl ?_
              refine g_goto (tgt := 38) dX1_putWord_109 (by decide) ?_
              exact ih (j + 1) _ _ (by omega) (by omega) (by rw [hs]; first | (rw [if_pos (by omega), ht]) | (rw [if_neg (by omega), ht]))
  refine g_iload_n dX1_putWord_0 rfl ?_
  refine g_if_lt (tgt := 31) dX1_putWord_1 (by decide) (fun c1 => ?_) (fun c1 => ?_)
  · exfalso; omega
  · refine g_iload_n dX1_putWord_4 rfl ?_
    refine g_aload_n dX1_putWord_5 rfl ?_
    refine g_getA dX1_putWord_6 tf_1_22 rfl rfl (crf hf rfl) ?_
    refine g_alen dX1_putWord_9 rfl (by decide) ?_
    refine g_icmp_ge (tgt := 31) dX1_putWord_10 (by decide) (fun c10 => ?_) (fun c10 => ?_)
    · exfalso; omega
    · refine g_iload_n dX1_putWord_13 rfl ?_
      refine g_aload_n dX1_putWord_14 rfl ?_
      refine g_getA dX1_putWord_15 tf_1_26 rfl rfl (crf hf rfl) ?_
      refine g_alen dX1_putWord_18 rfl (by decide) ?_
      refine g_icmp_ge (tgt := 31) dX1_putWord_19 (by decide) (fun c19 => ?_) (fun c19 => ?_)
      · exfalso; omega
      · refine g_iload_n dX1_putWord_22 rfl ?_
        refine g_aload_n dX1_putWord_23 rfl ?_
        refine g_getA dX1_putWord_24 tf_1_29 rfl rfl (crf hf rfl) ?_
        refine g_alen dX1_putWord_27 rfl (by decide) ?_
        refine g_icmp_lt (tgt := 32) dX1_putWord_28 (by decide) (fun c28 => ?_) (fun c28 => ?_)
        · refine g_iconst dX1_putWord_32 ⟨by decide, by decide⟩ ?_
          refine g_istore dX1_putWord_33 (by decide) rfl ?_
          refine g_iload_n dX1_putWord_35 rfl ?_
          refine g_istore dX1_putWord_36 (by decide) rfl ?_
          exact loop (e - a) 0 _ _ (by omega) (by omega) rfl
        · exfalso; omega
theorem cc1_turnTo {D : Nat} (hD : 1 ≤ D) (σ : am_HS) {b : Nat} (hf : σ.2.2 = cH b) (i : Nat) (hi : i < 601) : am_Do lc D mX1_turnTo σ [vR (some 4), vI (i : Int)] (qV fun s => s = uI (uI (uI σ 4 6 (i : Int)) 4 7 (hI σ 10 i)) 4 8 (hI σ 11 i)) := by
  obtain ⟨d, rfl⟩ : ∃ d, D = d + 1 := ⟨D - 1, by omega⟩
  refine am_enter rfl rfl (Nat.le_of_ble_eq_true rfl) ?_
  refine g_iload_n dX1_turnTo_0 rfl ?_
  refine g_if_lt (tgt := 47) dX1_turnTo_1 (by decide) (fun c1 => ?_) (fun c1 => ?_)
  · exfalso; omega
  · refine g_iload_n dX1_turnTo_4 rfl ?_
    refine g_aload_n dX1_turnTo_5 rfl ?_
    refine g_getA dX1_turnTo_6 tf_1_22 rfl rfl (crf hf rfl) ?_
    refine g_alen dX1_turnTo_9 rfl (by decide) ?_
    refine g_icmp_ge (tgt := 47) dX1_turnTo_10 (by decide) (fun c10 => ?_) (fun c10 => ?_)
    · exfalso; omega
    · refine g_iload_n dX1_turnTo_13 rfl ?_
      refine g_aload_n dX1_turnTo_14 rfl ?_
      refine g_getA dX1_turnTo_15 tf_1_26 rfl rfl (crf hf rfl) ?_
      refine g_alen dX1_turnTo_18 rfl (by decide) ?_
      refine g_icmp_ge (tgt := 47) dX1_turnTo_19 (by decide) (fun c19 => ?_) (fun c19 => ?_)
      · exfalso; omega
      · refine g_aload_n dX1_turnTo_22 rfl ?_
        refine g_iload_n dX1_turnTo_23 rfl ?_
        refine g_putI dX1_turnTo_24 tf_1_79 rfl rfl rfl ?_
        refine g_aload_n dX1_turnTo_27 rfl ?_
        refine g_aload_n dX1_turnTo_28 rfl ?_
        refine g_getA dX1_turnTo_29 tf_1_22 rfl rfl (crf hf rfl) ?_
        refine g_iload_n dX1_turnTo_32 rfl ?_
        refine g_ialdN (i) dX1_turnTo_33 rfl (by omega) (by omega) ?_
        refine g_putI dX1_turnTo_34 tf_1_49 rfl rfl rfl ?_
        refine g_aload_n dX1_turnTo_37 rfl ?_
        refine g_aload_n dX1_turnTo_38 rfl ?_
        refine g_getA dX1_turnTo_39 tf_1_26 rfl rfl (crf hf rfl) ?_
        refine g_iload_n dX1_turnTo_42 rfl ?_
        refine g_ialdN (i) dX1_turnTo_43 rfl (by omega) (by omega) ?_
        refine g_putI dX1_turnTo_44 tf_1_52 rfl rfl rfl ?_
        refine g_return dX1_turnTo_47 rfl ⟨rfl, ?_⟩
        rfl

theorem cc1_fail {D : Nat} (hD : 1 ≤ D) (σ : am_HS) {b : Nat} (hf : σ.2.2 = cH b) (i : Nat) (hi : i < 601) (ha : hI σ 4 6 = (i : Int)) : am_Do lc D mX1_fail σ [vR (some 4)] (qV fun s => s = if hI σ 4 9 < 0 then uI σ 4 9 (hI σ 12 i) else σ) := by
  obtain ⟨d, rfl⟩ : ∃ d, D = d + 1 := ⟨D - 1, by omega⟩
  refine am_enter rfl rfl (Nat.le_of_ble_eq_true rfl) ?_
  refine g_aload_n dX1_fail_0 rfl ?_
  refine g_getI dX1_fail_1 tf_1_32 rfl rfl ?_
  refine g_if_ge (tgt := 39) dX1_fail_4 (by decide) (fun c4 => ?_) (fun c4 => ?_)
  · refine g_return dX1_fail_39 rfl ⟨rfl, ?_⟩
    first
      | (rw [if_pos (by omega)]; done)
      | (rw [if_neg (by omega)]; done)
  · refine g_aload_n dX1_fail_7 rfl ?_
    refine g_getI dX1_fail_8 tf_1_79 rfl rfl ?_
    refine g_if_lt (tgt := 39) dX1_fail_11 (by decide) (fun c11 => ?_) (fun c11 => ?_)
    · exfalso; omega
    · refine g_aload_n dX1_fail_14 rfl ?_
      refine g_getI dX1_fail_15 tf_1_79 rfl rfl ?_
      refine g_aload_n dX1_fail_18 rfl ?_
      refine g_getA dX1_fail_19 tf_1_29 rfl rfl (crf hf rfl) ?_
      refine g_alen dX1_fail_22 rfl (by decide) ?_
      refine g_icmp_ge (tgt := 39) dX1_fail_23 (by decide) (fun c23 => ?_) (fun c23 => ?_)
      · exfalso; omega
      · refine g_aload_n dX1_fail_26 rfl ?_
        refine g_aload_n dX1_fail_27 rfl ?_
        refine g_getA dX1_fail_28 tf_1_29 rfl rfl (crf hf rfl) ?_
        refine g_aload_n dX1_fail_31 rfl ?_
        refine g_getI dX1_fail_32 tf_1_79 rfl rfl ?_
        refine g_ialdN (i) dX1_fail_35 rfl (by omega) (by omega) ?_
        refine g_putI dX1_fail_36 tf_1_32 rfl rfl rfl ?_
        refine g_return dX1_fail_39 rfl ⟨rfl, ?_⟩
        first
          | (rw [if_pos (by omega)]; done)
          | (rw [if_neg (by omega)]; done)

