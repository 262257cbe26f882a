/-! THE CLASS: parting a text into words, the walk -/
def TkR (tx : Nat → Int) (n i : Nat) (s : am_HS) : Prop := ∀ l, l < i → knC (tkT tx n l) (hI s 10 l) (hI s 11 l) ∧ hI s 12 l = (plT tx n l : Int)
def PtQ (tx : Nat → Int) (n : Nat) (σ s : am_HS) : Prop := FrT σ s ∧ ∃ W, W ≤ n ∧ (tkT tx n W).1 = 0 ∧ (∀ l, l < W → (tkT tx n l).1 ≠ 0) ∧ TkR tx n (W + 1) s
theorem FrT.rf (σ : am_HS) : FrT σ σ := ⟨rfl, fun _ _ _ => rfl⟩
theorem FrT.u {σ s : am_HS} (h : FrT σ s) {o j : Nat} {x : Int} (ho : 10 ≤ o ∧ o ≤ 12) : FrT σ (uI s o j x) := ⟨h.1, fun a b k => (hI_uI_n (by omega)).trans (h.2 a b k)⟩
theorem knC_r {t : Int × Int} {x y : Int} (h : knC t x y) : rI x → rI y → True := fun _ _ => trivial
theorem TkR.put {tx : Nat → Int} {n i a : Nat} {s : am_HS} {kc nc : Int} (h : TkR tx n i s) (hk : knC (tkT tx n i) kc nc) (rk : rI kc) (rn : rI nc) (hp : plT tx n i = a) (ha : a ≤ 600) : TkR tx n (i + 1) (uI (uI (uI s 10 i kc) 11 i nc) 12 i (a : Int)) := by
  intro l hl
  rcases Nat.lt_or_ge l i with q | q
  · have e1 : hI (uI (uI (uI s 10 i kc) 11 i nc) 12 i (a : Int)) 10 l = hI s 10 l := by rw [hI_uI_n (by omega), hI_uI_n (by omega), hI_uI_n (by omega)]
    have e2 : hI (uI (uI (uI s 10 i kc) 11 i nc) 12 i (a : Int)) 11 l = hI s 11 l := by rw [hI_uI_n (by omega), hI_uI_n (by omega), hI_uI_n (by omega)]
    have e3 : hI (uI (uI (uI s 10 i kc) 11 i nc) 12 i (a : Int)) 12 l = hI s 12 l := by rw [hI_uI_n (by omega), hI_uI_n (by omega), hI_uI_n (by omega)]
    rw [e1, e2, e3]
    exact h l q
  · have el : l = i := by omega
    subst el
    have e1 : hI (uI (uI (uI s 10 l kc) 11 l nc) 12 l (a : Int)) 10 l = kc := by rw [hI_uI_n (by omega), hI_uI_n (by omega), hI_uI_e rk]
    have e2 : hI (uI (uI (uI s 10 l kc) 11 l nc) 12 l (a : Int)) 11 l = nc := by rw [hI_uI_n (by omega), hI_uI_e rn]
    have e3 : hI (uI (uI (uI s 10 l kc) 11 l nc) 12 l (a : Int)) 12 l = (a : Int) := hI_uI_e ⟨by omega, by omega⟩
    rw [e1, e2, e3, hp]
    exact ⟨hk, rfl⟩
theorem skS_s (tx : Nat → Int) (m a : Nat) : skS tx (m + 1) a = if tx a = 32 then skS tx m (a + 1) else a := rfl
theorem rnS_s (tx : Nat → Int) (k m a : Nat) : rnS tx k (m + 1) a = if clS (tx a) = k then rnS tx k m (a + 1) else a := rfl
theorem kdC_rI {x : Int} (h : -128 ≤ x ∧ x ≤ 127) : -128 ≤ kdC x ∧ kdC x ≤ 1001 := by
  unfold kdC
  split
  · omega
  · split <;> omega
theorem cc1_partI {d : Nat} (hd : 1 ≤ d) (σ : am_HS) {b : Nat} {tx : Nat → Int} (htx : ∀ j, tx j = hI σ 9 j % 256) (hb9 : ∀ j, -128 ≤ hI σ 9 j ∧ hI σ 9 j ≤ 127) (Q : Option am_V → am_HS → Prop) (s : am_HS) (hfs : s.2.2 = cH b) (hfr : FrT σ s) (n a e i : Nat) (hn : n ≤ 600) (kd : Int) (k : Nat) (hk : k = 1 ∧ kd = 1000 ∨ k = 2 ∧ kd = 1001) (hq : am_Go lc d 1 7 0 cX1_part 87 [some (vR (some 4)), some (vI (n : Int)), some (vI (i : Int)), some (vI (a : Int)), some (vI kd), some (vI (e : Int)), some (vI 1)] [] s Q) : ∀ (m t : Nat), t + m = n → rnS tx k m t = e → am_Go lc d 1 7 0 cX1_part 51 [some (vR (some 4)), some (vI (n : Int)), some (vI (i : Int)), some (vI (a : Int)), some (vI kd), some (vI (t : Int)), some (vI 1)] [] s Q := by
  intro m
  induction m with
  | zero =>
    intro t ht he
    have et : t = e := he
    subst et
    refine g_iload dX1_part_51 rfl ?_
    refine g_if_eq (tgt := 87) dX1_part_53 (by decide) (fun c53 => ?_) (fun c53 => ?_)
    · exfalso; omega
    · refine g_iload dX1_part_56 rfl ?_
      refine g_iload_n dX1_part_58 rfl ?_
      refine g_icmp_ge (tgt := 87) dX1_part_59 (by decide) (fun c59 => ?_) (fun c59 => ?_)
      · exact hq
      · exfalso; omega
  | succ m ih =>
    intro t ht he
    have hbt := hb9 t
    have hkd := kd_r hbt
    rw [← htx] at hkd
    have e9 := hfr.2 9 t (by omega)
    refine g_iload dX1_part_51 rfl ?_
    refine g_if_eq (tgt := 87) dX1_part_53 (by decide) (fun c53 => ?_) (fun c53 => ?_)
    · exfalso; omega
    · refine g_iload dX1_part_56 rfl ?_
      refine g_iload_n dX1_part_58 rfl ?_
      refine g_icmp_ge (tgt := 87) dX1_part_59 (by decide) (fun c59 => ?_) (fun c59 => ?_)
      · exfalso; omega
      · refine g_iload dX1_part_62 rfl ?_
        refine g_sipush dX1_part_64 (by decide) ?_
        refine g_icmp_ge (tgt := 87) dX1_part_67 (by decide) (fun c67 => ?_) (fun c67 => ?_)
        · exfalso; omega
        · refine g_aload_n dX1_part_70 rfl ?_
          refine g_iload dX1_part_71 rfl ?_
          refine g_callvI dX1_part_73 tm_1_71 rfl ⟨rfl, rfl⟩ rfl (Nat.le_of_ble_eq_true rfl) (cc1_kindAt (by omega) s hfs t (by omega)) (fun z73 s73 h73 => ?_)
          obtain ⟨h73, rfl⟩ := h73
          rw [e9] at h73
          unfold rnS at he
          refine g_iload dX1_part_76 rfl ?_
          refine g_icmp_ne (tgt := 87) dX1_part_78 (by decide) (fun c78 => ?_) (fun c78 => ?_)
          · rw [if_neg (by omega)] at he
            subst he
            exact hq
          · rw [if_pos (by omega)] at he
            refine g_iinc dX1_part_81 (by decide) rfl ⟨by omega, by omega⟩ (show (t : Int) + 1 = ((t + 1 : Nat) : Int) from by omega) rfl ?_
            refine g_goto (tgt := 51) dX1_part_84 (by decide) ?_
            exact ih (t + 1) (by omega) he
theorem cc1_part {D : Nat} (hD : 2 ≤ D) (σ : am_HS) {b : Nat} (hf : σ.2.2 = cH b) {tx : Nat → Int} (htx : ∀ j, tx j = hI σ 9 j % 256) (hb9 : ∀ j, -128 ≤ hI σ 9 j ∧ hI σ 9 j ≤ 127) (n : Nat) (hn : n ≤ 600) : am_Do lc D mX1_part σ [vR (some 4), vI (n : Int)] (qV fun s => PtQ tx n σ s) := by
  obtain ⟨d, rfl⟩ : ∃ d, D = d + 1 := ⟨D - 1, by omega⟩
  refine am_enter rfl rfl (Nat.le_of_ble_eq_true rfl) ?_
  have loop : ∀ (m i a : Nat) (s : am_HS) (o4 o5 o6 : Option am_V), n - a < m → a ≤ n → i ≤ a → FrT σ s → skS tx (n - psS tx n i) (psS tx n i) = skS tx (n - a) a → TkR tx n i s → (∀ l, l < i → (tkT tx n l).1 ≠ 0) → am_Go lc d 1 7 0 cX1_part 4 [some (vR (some 4)), some (vI (n : Int)), some (vI (i : Int)), some (vI (a : Int)), o4, o5, o6] [] s (qV fun s => PtQ tx n σ s) := by
    intro m
    induction m with
    | zero => intro i a s o4 o5 o6 hm; omega
    | succ m ih =>
      intro i a s o4 o5 o6 hm han hia hfr hsk hT hne
      have hfs : s.2.2 = cH b := (congrArg Prod.snd hfr.1).trans hf
      have tail : ∀ (e : Nat) (kd g : Int), a < e → e ≤ n → rI kd → (kd = 32 → e = a + 1 ∧ hI σ 9 a = 32) → (kd ≠ 32 → kd = kdC (hI σ 9 a) ∧ hI σ 9 a ≠ 32 ∧ e = toE tx n a) → am_Go lc d 1 7 0 cX1_part 87 [some (vR (some 4)), some (vI (n : Int)), some (vI (i : Int)), some (vI (a : Int)), some (vI kd), some (vI (e : Int)), some (vI g)] [] s (qV fun s => PtQ tx n σ s) := by
        intro e kd g hae hen rkd h32 hn32
        have key : ∀ kc : Int, kd ≠ 32 → kc = (if 4 < e - a then 1002 else kd) → rI kc → TkR tx n (i + 1) (uI (uI (uI s 10 i kc) 11 i (mdC (fun j => hI s 9 j) kc a (e - a))) 12 i (a : Int)) ∧ (tkT tx n i).1 ≠ 0 ∧ psS tx n (i + 1) = e := by
          intro kc hne32 hkc rkc
          obtain ⟨g1, g2, g3⟩ := hn32 hne32
          rw [g1] at hkc
          have hsk2 : skS tx (n - a) a = a := by
            obtain ⟨q, hq⟩ : ∃ q, n - a = q + 1 := ⟨n - a - 1, by omega⟩
            rw [hq]
            unfold skS
            have h9a := hb9 a
            have hta := htx a
            rw [if_neg (by omega)]
          have ht := tok_at (f := fun j => hI σ 9 j) (tx := tx) htx hb9 (hsk.trans hsk2) (by omega) g2 g3 hkc
          have e9 : (fun j => hI s 9 j) = (fun j => hI σ 9 j) := funext fun j => hfr.2 9 j (by omega)
          rw [e9]
          exact ⟨hT.put ht.2.2.2.2.2 rkc (mdC_r _ _ _ _) ht.2.1 (by omega), ht.1, ht.2.2.1⟩
        refine g_iload dX1_part_87 rfl ?_
        refine g_bipush dX1_part_89 (by decide) ?_
        refine g_icmp_eq (tgt := 121) dX1_part_91 (by decide) (fun c91 => ?_) (fun c91 => ?_)
        · refine g_iload dX1_part_121 rfl ?_
          refine g_istore_n dX1_part_123 (by decide) rfl ?_
          refine g_goto (tgt := 4) dX1_part_124 (by decide) ?_
          obtain ⟨g1, g2⟩ := h32 (by omega)
          exact ih i e s _ _ _ (by omega) hen (by omega) hfr (by rw [hsk]; obtain ⟨q, hq⟩ : ∃ q, n - a = q + 1 := ⟨n - a - 1, by omega⟩; rw [hq, g1, show n - (a + 1) = q by omega]; have hta := htx a; rw [skS_s, if_pos (by omega)]) hT hne
        · refine g_aload_n dX1_part_94 rfl ?_
          refine g_iload_n dX1_part_95 rfl ?_
          refine g_iload dX1_part_96 rfl ?_
          refine g_iload_n dX1_part_98 rfl ?_
          refine g_isub dX1_part_99 rfl ⟨by omega, by omega⟩ ?_
          refine g_iconst dX1_part_100 ⟨by decide, by decide⟩ ?_
          refine g_icmp_le (tgt := 110) dX1_part_101 (by decide) (fun c101 => ?_) (fun c101 => ?_)
          · refine g_iload dX1_part_110 rfl ?_
            refine g_iload_n dX1_part_112 rfl ?_
            refine g_iload dX1_part_113 rfl ?_
            refine g_callvV dX1_part_115 tm_1_75 rfl ⟨rfl, rfl⟩ rfl (Nat.le_of_ble_eq_true rfl) (cc1_putWord (by omega) s hfs i (by omega) _ a e (by omega) (by omega)) (fun s115 h115 => ?_)
            obtain rfl := h115
            have K := key _ (by omega) (by first | (rw [if_pos (by omega)]; done) | (rw [if_neg (by omega)]; done)) ⟨by have := rkd.1; show (-2147483648 : Int) ≤ _; omega, by have := rkd.2; show _ ≤ (2147483647 : Int); omega⟩
            refine g_iinc dX1_part_118 (by decide) rfl ⟨by omega, by omega⟩ (show (i : Int) + 1 = ((i + 1 : Nat) : Int) from by omega) rfl ?_
            refine g_iload dX1_part_121 rfl ?_
            refine g_istore_n dX1_part_123 (by decide) rfl ?_
            refine g_goto (tgt := 4) dX1_part_124 (by decide) ?_
            exact ih (i + 1) e _ _ _ _ (by omega) hen (by omega) (((hfr.u (by omega)).u (by omega)).u (by omega)) (by rw [K.2.2]) K.1 (fun l hl => by rcases Nat.lt_or_ge l i with q | q; exact hne l q; rw [show l = i by omega]; exact K.2.1)
          · refine g_sipush dX1_part_104 (by decide) ?_
            refine g_goto (tgt := 112) dX1_part_107 (by decide) ?_
            refine g_iload_n dX1_part_112 rfl ?_
            refine g_iload dX1_part_113 rfl ?_
            refine g_callvV dX1_part_115 tm_1_75 rfl ⟨rfl, rfl⟩ rfl (Nat.le_of_ble_eq_true rfl) (cc1_putWord (by omega) s hfs i (by omega) _ a e (by omega) (by omega)) (fun s115 h115 => ?_)
            obtain rfl := h115
            have K := key _ (by omega) (by first | (rw [if_pos (by omega)]; done) | (rw [if_neg (by omega)]; done)) ⟨by have := rkd.1; show (-2147483648 : Int) ≤ _; omega, by have := rkd.2; show _ ≤ (2147483647 : Int); omega⟩
            refine g_iinc dX1_part_118 (by decide) rfl ⟨by omega, by omega⟩ (show (i : Int) + 1 = ((i + 1 : Nat) : Int) from by omega) rfl ?_
            refine g_iload dX1_part_121 rfl ?_
            refine g_istore_n dX1_part_123 (by decide) rfl ?_
            refine g_goto (tgt := 4) dX1_part_124 (by decide) ?_
            exact ih (i + 1) e _ _ _ _ (by omega) hen (by omega) (((hfr.u (by omega)).u (by omega)).u (by omega)) (by rw [K.2.2]) K.1 (fun l hl => by rcases Nat.lt_or_ge l i with q | q; exact hne l q; rw [show l = i by omega]; exact K.2.1)
      refine g_iload_n dX1_part_4 rfl ?_
      refine g_iload_n dX1_part_5 rfl ?_
      refine g_icmp_ge (tgt := 127) dX1_part_6 (by decide) (fun c6 => ?_) (fun c6 => ?_)
      · refine g_aload_n dX1_part_127 rfl ?_
        refine g_iload_n dX1_part_128 rfl ?_
        refine g_sipush dX1_part_129 (by decide) ?_
        refine g_iload_n dX1_part_132 rfl ?_
        refine g_iload_n dX1_part_133 rfl ?_
        refine g_callvV dX1_part_134 tm_1_75 rfl ⟨rfl, rfl⟩ rfl (Nat.le_of_ble_eq_true rfl) (cc1_putWord (by omega) s hfs i (by omega) _ n n (by omega) (by omega)) (fun s134 h134 => ?_)
        obtain rfl := h134
        refine g_return dX1_part_137 rfl ⟨rfl, ?_⟩
        have hst : skS tx (n - psS tx n i) (psS tx n i) = n := by
          rw [hsk, show a = n by omega, Nat.sub_self]; rfl
        have htk : tkS tx n (psS tx n i) = (0, 0, n, n) := by
          unfold tkS
          rw [if_pos hst]
        refine ⟨((hfr.u (by omega)).u (by omega)).u (by omega), i, by omega, congrArg Prod.fst htk, hne, ?_⟩
        exact hT.put (Or.inr (Or.inr (Or.inr (Or.inr ⟨congrArg Prod.fst htk, rfl⟩)))) ⟨by decide, by decide⟩ (mdC_r _ _ _ _) (congrArg (fun x => x.2.2.1) htk) hn
      · refine g_iload_n dX1_part_9 rfl ?_
        refine g_sipush dX1_part_10 (by decide) ?_
        refine g_icmp_ge (tgt := 127) dX1_part_13 (by decide) (fun c13 => ?_) (fun c13 => ?_)
        · exfalso; omega
        · refine g_aload_n dX1_part_16 rfl ?_
          refine g_iload_n dX1_part_17 rfl ?_
          refine g_callvI dX1_part_18 tm_1_71 rfl ⟨rfl, rfl⟩ rfl (Nat.le_of_ble_eq_true rfl) (cc1_kindAt (by omega) s hfs a (by omega)) (fun z18 s18 h18 => ?_)
          obtain ⟨h18, e18⟩ := h18
          obtain rfl := e18.symm
          have hz18 := h18
          have hba := hb9 a
          have hkd := kd_r hba
          have hta := htx a
          rw [← htx] at hkd
          have e9 := hfr.2 9 a (by omega)
          rw [e9] at h18
          have hk18 := kdC_rI hba
          refine g_istore dX1_part_21 (by decide) rfl ?_
          refine g_iload_n dX1_part_23 rfl ?_
          refine g_iconst dX1_part_24 ⟨by decide, by decide⟩ ?_
          refine g_iadd dX1_part_25 rfl ⟨by omega, by omega⟩ ?_
          refine g_istore dX1_part_26 (by decide) rfl ?_
          rw [show (a : Int) + 1 = ((a + 1 : Nat) : Int) from by omega]
          refine g_iload dX1_part_28 rfl ?_
          refine g_sipush dX1_part_30 (by decide) ?_
          refine g_icmp_eq (tgt := 44) dX1_part_33 (by decide) (fun c33 => ?_) (fun c33 => ?_)
          · refine g_iconst dX1_part_44 ⟨by decide, by decide⟩ ?_
            refine g_goto (tgt := 49) dX1_part_45 (by decide) ?_
            refine g_istore dX1_part_49 (by decide) rfl ?_
            have hcl : clS (tx a) = 1 := by omega
            have hrn : toE tx n a = rnS tx 1 (n - (a + 1)) (a + 1) := by
              unfold toE
              rw [hcl, if_neg (by omega), show n - a = n - (a + 1) + 1 by omega]
              rw [rnS_s, if_pos hcl]
            have hrr := rnS_r tx 1 (n - (a + 1)) (a + 1)
            exact cc1_partI (by omega) σ htx hb9 _ s hfs hfr n a (toE tx n a) i hn _ 1 (by omega) (tail _ _ _ (by omega) (by omega) ⟨by omega, by omega⟩ (fun h => by omega) (fun h => ⟨h18, by omega, rfl⟩)) (n - (a + 1)) (a + 1) (by omega) hrn.symm
          · refine g_iload dX1_part_36 rfl ?_
            refine g_sipush dX1_part_38 (by decide) ?_
            refine g_icmp_ne (tgt := 48) dX1_part_41 (by decide) (fun c41 => ?_) (fun c41 => ?_)
            · refine g_iconst dX1_part_48 ⟨by decide, by decide⟩ ?_
              refine g_istore dX1_part_49 (by decide) rfl ?_
              refine g_iload dX1_part_51 rfl ?_
              refine g_if_eq (tgt := 87) dX1_part_53 (by decide) (fun c53 => ?_) (fun c53 => ?_)
              · exact tail (a + 1) z18 0 (by omega) (by omega) ⟨by omega, by omega⟩ (fun h => ⟨rfl, by omega⟩) (fun h => ⟨h18, by omega, by unfold toE; rw [if_pos (by omega)]⟩)
              · exfalso; omega
            · refine g_iconst dX1_part_44 ⟨by decide, by decide⟩ ?_
              refine g_goto (tgt := 49) dX1_part_45 (by decide) ?_
              refine g_istore dX1_part_49 (by decide) rfl ?_
              have hcl : clS (tx a) = 2 := by omega
              have hrn : toE tx n a = rnS tx 2 (n - (a + 1)) (a + 1) := by
                unfold toE
                rw [hcl, if_neg (by omega), show n - a = n - (a + 1) + 1 by omega]
                rw [rnS_s, if_pos hcl]
              have hrr := rnS_r tx 2 (n - (a + 1)) (a + 1)
              exact cc1_partI (by omega) σ htx hb9 _ s hfs hfr n a (toE tx n a) i hn _ 2 (by omega) (tail _ _ _ (by omega) (by omega) ⟨by omega, by omega⟩ (fun h => by omega) (fun h => ⟨h18, by omega, rfl⟩)) (n - (a + 1)) (a + 1) (by omega) hrn.symm
  refine g_iconst dX1_part_0 ⟨by decide, by decide⟩ ?_
  refine g_istore_n dX1_part_1 (by decide) rfl ?_
  refine g_iconst dX1_part_2 ⟨by decide, by decide⟩ ?_
  refine g_istore_n dX1_part_3 (by decide) rfl ?_
  exact loop (n + 1) 0 0 σ _ _ _ (by omega) (by omega) (by omega) (FrT.rf σ) rfl (fun l hl => absurd hl (by omega)) (fun l hl => absurd hl (by omega))
