theorem wkS_lt (v : Int) : wkS v < 0 ↔ ¬ (622 ≤ v ∧ v < 632) := by
  unfold wkS
  by_cases h : 622 ≤ v ∧ v < 632
  · rw [if_pos h]; omega
  · rw [if_neg h]; omega
theorem RX.cx0 {tx : Nat → Int} {n W b B N i k : Nat} {s : am_HS} (hx : RX tx n W b B N s) (hi : CI W B i k s) (h : (tkT tx n i).1 ≠ 0) : i < W := by
  have h1 := hi.2.2.2.2.1
  rcases Nat.lt_or_ge i W with q | q
  · exact q
  · have : i = W := by omega
    rw [this] at h
    exact absurd hx.2.2.2.2 h
/-! THE CLASS: `read`: the loop over the rules -/
theorem RLs.mono {B n : Nat} {tx : Nat → Int} {acc : List RU} {bf : Nat → Nat} {s : am_HS} (h : RLs B n tx acc bf s) : ∀ k, k < acc.length → bf k < bf (k + 1) := fun k hk => (h.2.2.1 k _ (auN_get hk)).2.2.2.1
theorem RLs.snoc {B n N k k2 i j : Nat} {tx : Nat → Int} {acc : List RU} {bf : Nat → Nat} {s u : am_HS} {v : Int} {e : NDn} (h : RLs B n tx acc bf s) (hN : acc.length = N) (hk : bf N = k) (hlt : N < 12) (h19 : ∀ j, j < N → hI u (19 + 9 * B) j = hI s (19 + 9 * B) j ∧ hI u (20 + 9 * B) j = hI s (20 + 9 * B) j ∧ hI u (21 + 9 * B) j = hI s (21 + 9 * B) j) (hcd : ∀ x, x < k → cdT u B x = cdT s B x) (n19 : hI u (19 + 9 * B) N = v) (n20 : hI u (20 + 9 * B) N = (k : Int)) (n21 : hI u (21 + 9 * B) N = (k2 : Int)) (hkk : k < k2) (hC : Cd (cdT u B) 0 99 k k2 [(e, false)]) (hM : NmP (tdC (cdT u B)) (tkT tx n) k k2 i j) (hm : (hI u (6 + B) 1 = 0 ∨ hI u (6 + B) 1 = 1) ∧ (hI u (6 + B) 1 ≠ 0 ↔ hI s (6 + B) 1 ≠ 0 ∨ ∃ l, i ≤ l ∧ l < j ∧ tkT tx n l = (3, 45))) : RLs B n tx (acc ++ [(v, (e, (i, j)))]) (fun t => if t ≤ N then bf t else k2) u := by
  have hmo := h.mono
  obtain ⟨h1, h2, h3, h4, h5⟩ := h
  subst hN
  have hcm := cf_mono hmo
  refine ⟨by rw [List.length_append]; show acc.length + 1 ≤ 12; omega, by show (if 0 ≤ acc.length then bf 0 else k2) = 0; rw [if_pos (Nat.zero_le _)]; exact h2, fun q a hq => ?_, hm.1, ?_⟩
  · rcases Nat.lt_or_ge q acc.length with z | z
    · rw [List.getElem?_append_left z] at hq
      obtain ⟨g1, g2, g3⟩ := h3 q a hq
      have hb := hcm q z
      obtain ⟨e1, e2, e3⟩ := h19 q z
      show hI u (20 + 9 * B) q = ((if q ≤ acc.length then bf q else k2 : Nat) : Int) ∧ hI u (21 + 9 * B) q = ((if q + 1 ≤ acc.length then bf (q + 1) else k2 : Nat) : Int) ∧ RuC B n tx a (hI u (19 + 9 * B) q) (if q ≤ acc.length then bf q else k2) (if q + 1 ≤ acc.length then bf (q + 1) else k2) u
      rw [if_pos (show q ≤ acc.length by omega), if_pos (show q + 1 ≤ acc.length by omega), e1, e2, e3]
      exact ⟨g1, g2, g3.congr (fun x _ x2 => hcd x (by omega))⟩
    · rw [List.getElem?_append_right z] at hq
      have hq0 : q - acc.length = 0 := by
        rcases Nat.eq_zero_or_pos (q - acc.length) with w | w
        · exact w
        · rw [List.getElem?_eq_none (by show 1 ≤ q - acc.length; omega)] at hq
          cases hq
      have hqe : q = acc.length := by omega
      subst hqe
      rw [hq0] at hq
      have ha : (v, (e, (i, j))) = a := by injection hq
      subst ha
      show hI u (20 + 9 * B) acc.length = ((if acc.length ≤ acc.length then bf acc.length else k2 : Nat) : Int) ∧ hI u (21 + 9 * B) acc.length = ((if acc.length + 1 ≤ acc.length then bf (acc.length + 1) else k2 : Nat) : Int) ∧ RuC B n tx (v, (e, (i, j))) (hI u (19 + 9 * B) acc.length) (if acc.length ≤ acc.length then bf acc.length else k2) (if acc.length + 1 ≤ acc.length then bf (acc.length + 1) else k2) u
      rw [if_pos (Nat.le_refl _), if_neg (show ¬ acc.length + 1 ≤ acc.length by omega), hk]
      exact ⟨n20, n21, n19, hkk, hC, hM⟩
  · rw [LsR_snoc, ← h5]
    exact hm.2
theorem RLs.congr {B n : Nat} {tx : Nat → Int} {acc : List RU} {bf : Nat → Nat} {s u : am_HS} (h : RLs B n tx acc bf s) (he : ∀ o j, 6 ≤ o → hI u o j = hI s o j) : RLs B n tx acc bf u := by
  obtain ⟨h1, h2, h3, h4, h5⟩ := h
  have hcd : ∀ x, cdT u B x = cdT s B x := fun x => by
    unfold cdT
    rw [he _ _ (by omega), he _ _ (by omega), he _ _ (by omega)]
  refine ⟨h1, h2, fun k a hk => ?_, ?_, ?_⟩
  · obtain ⟨g1, g2, g3⟩ := h3 k a hk
    rw [he _ _ (by omega), he _ _ (by omega), he _ _ (by omega)]
    exact ⟨g1, g2, g3.congr (fun x _ _ => hcd x)⟩
  · rw [he _ _ (by omega)]; exact h4
  · rw [he _ _ (by omega)]; exact h5
/-- a rule is begun -/
theorem begin_ok {tx : Nat → Int} {n W b B N i k : Nat} {s : am_HS} (hx : RX tx n W b B N s) (hi : CI W B i k s) (hN : N < 12) {v : Int} (hv : rI v) {u : am_HS} (hu : u = uI (uI (uI s (19 + 9 * B) N v) (20 + 9 * B) N (hI s (6 + B) 2)) (6 + B) 0 ((N : Int) + 1)) : CX tx n W b B N u ∧ CI W B i k u ∧ RF B s u ∧ (∀ o j, ¬ (o = 19 + 9 * B ∧ j = N) → ¬ (o = 20 + 9 * B ∧ j = N) → ¬ (o = 6 + B ∧ j = 0) → hI u o j = hI s o j) ∧ hI u (19 + 9 * B) N = v ∧ hI u (20 + 9 * B) N = (k : Int) := by
  obtain ⟨x1, x2, x3, ⟨xb, xr, xW⟩, x5⟩ := hx
  obtain ⟨i1, i2, i3, i4, i5, i6⟩ := hi
  have ho : ∀ o j, ¬ (o = 19 + 9 * B ∧ j = N) → ¬ (o = 20 + 9 * B ∧ j = N) → ¬ (o = 6 + B ∧ j = 0) → hI u o j = hI s o j := fun o j z1 z2 z3 => by
    rw [hu, hI_uI_n (by omega), hI_uI_n (by omega), hI_uI_n (by omega)]
  have hfr : RF B s u := by
    rw [hu]
    exact (((RF.rf B s).u (by unfold rdP; omega)).u (by unfold rdP; omega)).u (by unfold rdP; omega)
  refine ⟨⟨(congrArg Prod.snd hfr.1).trans x1, ?_, fun l hl => ?_, ⟨xb, hN, xW⟩, x5⟩, ⟨?_, ?_, ?_, ?_, i5, ?_⟩, hfr, ho, ?_, ?_⟩
  · rw [hu, hI_uI_e ⟨by omega, by omega⟩]
  · rw [ho 10 l (by omega) (by omega) (by omega), ho 11 l (by omega) (by omega) (by omega), ho 12 l (by omega) (by omega) (by omega)]
    exact x3 l hl
  · rw [ho 4 6 (by omega) (by omega) (by omega)]; exact i1
  · rw [ho 4 7 (by omega) (by omega) (by omega), ho 10 i (by omega) (by omega) (by omega)]; exact i2
  · rw [ho 4 8 (by omega) (by omega) (by omega), ho 11 i (by omega) (by omega) (by omega)]; exact i3
  · rw [ho 4 9 (by omega) (by omega) (by omega)]; exact i4
  · rw [ho (6 + B) 2 (by omega) (by omega) (by omega)]; exact i6
  · rw [hu, hI_uI_n (by omega), hI_uI_n (by omega), hI_uI_e hv]
  · rw [hu, hI_uI_n (by omega), hI_uI_e (hI_r _ _ _)]; exact i6
theorem cc1_readE {d : Nat} (hd : 39 ≤ d) {B n : Nat} {tx : Nat → Int} {σ : am_HS} {a1 x : Int} (hx : 1 ≤ x ∧ x ≤ 13) (s : am_HS) {acc : List RU} (h9 : hI s 4 9 < 0) (h7 : hI s 4 7 = 1003) (hq : RdQ B n tx σ (.inr acc) (hI s 4 9) s) : am_Go lc d 1 3 1 cX1_read 24 [some (vR (some 4)), some (vI a1), some (vI x)] [] s (qI fun z u => RdQ B n tx σ (.inr acc) z u) := by
  refine g_iload_n dX1_read_24 rfl ?_
  refine g_bipush dX1_read_25 (by decide) ?_
  refine g_icmp_gt (tgt := 119) dX1_read_27 (by decide) (fun c27 => ?_) (fun c27 => ?_)
  · refine g_aload_n dX1_read_119 rfl ?_
    refine g_getI dX1_read_120 tf_1_32 rfl rfl ?_
    refine g_ireturn dX1_read_123 (Or.inl rfl) ⟨_, rfl, ?_⟩
    exact hq
  · refine g_aload_n dX1_read_30 rfl ?_
    refine g_getI dX1_read_31 tf_1_32 rfl rfl ?_
    refine g_if_ge (tgt := 119) dX1_read_34 (by decide) (fun c34 => ?_) (fun c34 => ?_)
    · exfalso; omega
    · refine g_iload_n dX1_read_37 rfl ?_
      refine g_if_eq (tgt := 51) dX1_read_38 (by decide) (fun c38 => ?_) (fun c38 => ?_)
      · exfalso; omega
      · refine g_aload_n dX1_read_41 rfl ?_
        refine g_getI dX1_read_42 tf_1_49 rfl rfl ?_
        refine g_sipush dX1_read_45 (by decide) ?_
        refine g_icmp_eq (tgt := 119) dX1_read_48 (by decide) (fun c48 => ?_) (fun c48 => ?_)
        · refine g_aload_n dX1_read_119 rfl ?_
          refine g_getI dX1_read_120 tf_1_32 rfl rfl ?_
          refine g_ireturn dX1_read_123 (Or.inl rfl) ⟨_, rfl, ?_⟩
          exact hq
        · exfalso; omega
theorem cc1_readL {d : Nat} (hd : 39 ≤ d) {b B n W : Nat} {tx : Nat → Int} {σ : am_HS} : ∀ (m : Nat) (acc : List RU) (i : Nat) (bf : Nat → Nat) (k : Nat) (s : am_HS), acc.length + m = 13 → RX tx n W b B acc.length s → CI W B i k s → bf acc.length = k → k ≤ 2 * i → RLs B n tx acc bf s → RF B σ s → (acc.length = 0 ∨ (tkT tx n i).1 ≠ 0) → am_Go lc d 1 3 1 cX1_read 24 [some (vR (some 4)), some (vI (n : Int)), some (vI (acc.length : Int))] [] s (qI fun z u => RdQ B n tx σ (pRA (tkT tx n) m acc i) z u) := by
  intro m
  induction m with
  | zero =>
    intro acc i bf k s hm hx _ _ _ _ _ _
    have := hx.2.2.2.1.2.1
    omega
  | succ m ih =>
    intro acc i bf k s hm hx hi hbf hk hR hσ hend
    obtain ⟨N, hN⟩ : ∃ N, acc.length = N := ⟨_, rfl⟩
    rw [hN] at hm hx hbf hend ⊢
    obtain ⟨hf, hsz, hT0, ⟨xb, xN, xW⟩, x5⟩ := id hx
    obtain ⟨i1, i2, i3, i4, i5, i6⟩ := id hi
    have hB : B < 2 := by omega
    have hb1 : B < 2 := hB
    have hrB : cH b 4 2 = some (6 + B) := by
      show some (7 - b) = some (6 + B)
      rw [show 7 - b = 6 + B by omega]
    obtain ⟨a, v, hT⟩ : ∃ a v, tkT tx n i = (a, v) := ⟨_, _, rfl⟩
    have hk0 := (hT0 i (by omega))
    rw [hT, ← i2, ← i3] at hk0
    have hpl := hk0.2
    have K := kn_r hk0.1
    have hend2 : N = 0 ∨ a ≠ 0 := by
      rw [hT] at hend
      exact hend
    clear hk0 hT0 hend
    have e0 : pRA (tkT tx n) (m + 1) acc i = if (tkT tx n i).1 = 2 ∧ fnS (tkT tx n i).2 = 0 ∧ wkS (tkT tx n i).2 < 0 ∧ acc.length ≠ 12 then
      (if tkT tx n (i + 1) = (3, 61) then (match pS (tkT tx n) 8 (i + 2) with
        | .inl g => .inl g
        | .inr q => if tkT tx n q.2 = (3, 59) then (if (tkT tx n (q.2 + 1)).1 = 0 then .inr (acc ++ [((tkT tx n i).2, (q.1, (i + 2, q.2)))]) else pRA (tkT tx n) m (acc ++ [((tkT tx n i).2, (q.1, (i + 2, q.2)))]) (q.2 + 1)) else .inl q.2) else .inl (i + 1)) else .inl i := rfl
    rw [hT, hN] at e0
    dsimp only at e0
    have h85 : ¬ (a = 2 ∧ fnS v = 0 ∧ wkS v < 0 ∧ N ≠ 12) → am_Go lc d 1 3 1 cX1_read 85 [some (vR (some 4)), some (vI (n : Int)), some (vI (N : Int))] [] s (qI fun z u => RdQ B n tx σ (pRA (tkT tx n) (m + 1) acc i) z u) := fun hno => by
      rw [e0, if_neg hno]
      refine g_aload_n dX1_read_85 rfl ?_
      refine g_callvV dX1_read_86 tm_1_62 rfl ⟨rfl, rfl⟩ rfl (Nat.le_of_ble_eq_true rfl) (cc1_fail (by omega) s hf i (by omega) i1) (fun s86 h86 => ?_)
      rw [if_pos i4] at h86
      subst h86
      exact cc1_readF4 hd ⟨by omega, by omega⟩ _ (by rw [hI_uI_e (hI_r _ _ _)]; exact hpl) (hσ.u (by unfold rdP; omega))
    have h89 : a = 2 → fnS v = 0 → wkS v < 0 → N < 12 → ∀ s79 : am_HS, s79 = uI (uI (uI s (19 + 9 * B) N v) (20 + 9 * B) N (hI s (6 + B) 2)) (6 + B) 0 ((N : Int) + 1) → am_Go lc d 1 3 1 cX1_read 89 [some (vR (some 4)), some (vI (n : Int)), some (vI (N : Int))] [] s79 (qI fun z u => RdQ B n tx σ (pRA (tkT tx n) (m + 1) acc i) z u) := fun ha hfv hwv hN12 s79 hs79 => by
      have hv8 : hI s 4 8 = v := by omega
      obtain ⟨bx, bi, bF, bo, b19, b20⟩ := begin_ok hx hi hN12 (hv8 ▸ hI_r s 4 8) hs79
      clear hs79
      have hT2 : tkT tx n i = (2, v) := by rw [hT, ha]
      rw [if_pos ⟨ha, hfv, hwv, by omega⟩] at e0
      have hiW : i < W := RX.cx0 hx hi (by rw [hT2]; show (2 : Int) ≠ 0; decide)
      have b47 := bo 4 7 (by omega) (by omega) (by omega)
      obtain ⟨t1, t2, t3⟩ := tn_ok bx bi hiW
      obtain ⟨a1, v1, hT1⟩ : ∃ a v, tkT tx n (i + 1) = (a, v) := ⟨_, _, rfl⟩
      have K1 := kn_r (hT1 ▸ CI.kn t1 t2)
      have hlt1 : a1 ≠ 0 → i + 1 < W := fun z => CI.lt t1 t2 (by rw [hT1]; exact z)
      have hp1 : ∀ y : Int, (a1, v1) = (3, y) → a1 = 3 ∧ v1 = y := fun y w => ⟨congrArg Prod.fst w, congrArg Prod.snd w⟩
      have hσ2 : RF B σ (tnS s79 (i + 1)) := (hσ.tr bF).tr (t3 0).fr
      refine g_aload_n dX1_read_89 rfl ?_
      refine g_sipush dX1_read_90 (by decide) ?_
      refine g_callvV dX1_read_93 tm_1_65 rfl ⟨rfl, rfl⟩ rfl (Nat.le_of_ble_eq_true rfl) (take_ok (by omega) s79 bx bi _ (fun _ => hiW)) (fun s93 h93 => ?_)
      have e93 := h93.1 (by omega)
      clear h93
      subst e93
      refine g_aload_n dX1_read_96 rfl ?_
      refine g_bipush dX1_read_97 (by decide) ?_
      refine g_callvV dX1_read_99 tm_1_65 rfl ⟨rfl, rfl⟩ rfl (Nat.le_of_ble_eq_true rfl) (take_ok (by omega) _ t1 t2 _ (fun _ => hlt1 (by omega))) (fun s99 h99 => ?_)
      by_cases h61 : hI (tnS s79 (i + 1)) 4 7 = 61
      · have e99 := h99.1 h61
        clear h99
        subst e99
        have hTe : tkT tx n (i + 1) = (3, 61) := by rw [hT1, show a1 = 3 by omega, show v1 = 61 by omega]
        rw [if_pos hTe] at e0
        obtain ⟨u1, u2, u3⟩ := tn_ok t1 t2 (hlt1 (by omega))
        have hσ3 : RF B σ (tnS (tnS s79 (i + 1)) (i + 1 + 1)) := hσ2.tr (u3 0).fr
        have tm : hI (tnS (tnS s79 (i + 1)) (i + 1 + 1)) (6 + B) 1 = hI s (6 + B) 1 := ((tnS_o (by omega)).trans (tnS_o (by omega))).trans (bo _ _ (by omega) (by omega) (by omega))
        refine g_aload_n dX1_read_102 rfl ?_
        refine g_iconst dX1_read_103 ⟨by decide, by decide⟩ ?_
        refine g_callvV dX1_read_104 tm_1_68 rfl ⟨rfl, rfl⟩ rfl (Nat.le_of_ble_eq_true rfl) (cc1_sum0 (by omega) (i + 2) k _ u1 u2 (by rw [tm]; exact hR.2.2.2.1) (by omega)) (fun s104 h104 => ?_)
        rcases hres : pS (tkT tx n) 8 (i + 2) with g | ⟨e, j⟩
        · rw [hres] at h104 e0
          dsimp only at e0
          rw [e0]
          exact cc1_readF2 hd ⟨by omega, by omega⟩ s104 h104.2.2.1 ((hσ3.tr h104.2.1.fr))
        · rw [hres] at h104 e0
          dsimp only at e0
          obtain ⟨k2, p⟩ := QD.ql h104
          clear h104
          have hQ := p
          obtain ⟨p1, p2, p3, p4, p5, p6, p7, p8, p10, p9⟩ := p
          obtain ⟨aj, vj, hTj⟩ : ∃ a v, tkT tx n j = (a, v) := ⟨_, _, rfl⟩
          have K2 := kn_r (hTj ▸ CI.kn hQ.1 p4)
          have hpj : ∀ y : Int, (aj, vj) = (3, y) → aj = 3 ∧ vj = y := fun y w => ⟨congrArg Prod.fst w, congrArg Prod.snd w⟩
          have hj : aj ≠ 0 → j < W := fun z => CI.lt hQ.1 p4 (by rw [hTj]; exact z)
          have pW := p4.2.2.2.2.1
          have hσ3 : RF B σ s104 := hσ3.tr p2.fr
          refine g_aload_n dX1_read_107 rfl ?_
          refine g_bipush dX1_read_108 (by decide) ?_
          refine g_callvV dX1_read_110 tm_1_65 rfl ⟨rfl, rfl⟩ rfl (Nat.le_of_ble_eq_true rfl) (take_ok (by omega) s104 hQ.1 p4 _ (fun _ => hj (by omega))) (fun s110 h110 => ?_)
          by_cases h59k : hI s104 4 7 = 59
          · have h59 : tkT tx n j = (3, 59) := by rw [hTj, show aj = 3 by omega, show vj = 59 by omega]
            have hjW := hj (by omega)
            obtain ⟨w1, w2, w3⟩ := tn_ok hQ.1 p4 hjW
            rw [← h110.1 h59k] at w1 w2 w3
            have hsame : ∀ o j, 6 ≤ o → hI s110 o j = hI s104 o j := fun o y ho => by rw [h110.1 h59k]; exact tnS_o (by omega)
            clear h110
            have hσ4 : RF B σ s110 := hσ3.tr (w3 0).fr
            have RS : RLs B n tx (acc ++ [(v, (e, (i + 2, j)))]) (fun t => if t ≤ N then bf t else k2) s110 := by
              refine RLs.congr ?_ hsame
              have sz : hI (tnS (tnS s79 (i + 1)) (i + 2)) (6 + B) 0 = (N : Int) + 1 := u1.2.1
              have tt : ∀ o y, 6 ≤ o → hI (tnS (tnS s79 (i + 1)) (i + 2)) o y = hI s79 o y := fun o y ho => (tnS_o (by omega)).trans (tnS_o (by omega))
              refine RLs.snoc hR hN hbf hN12 (fun y hy => ?_) (fun x hx => ?_) ?_ ?_ p9 p5 p7 p8 ?_
              · have c1 := p2.2 (19 + 9 * B) y (by rw [sz]; unfold cfP; omega)
                have c2 := p2.2 (20 + 9 * B) y (by rw [sz]; unfold cfP; omega)
                have c3 := p2.2 (21 + 9 * B) y (by rw [sz]; unfold cfP; omega)
                rw [c1, c2, c3, tt _ _ (by omega), tt _ _ (by omega), tt _ _ (by omega), bo _ _ (by omega) (by omega) (by omega), bo _ _ (by omega) (by omega) (by omega), bo _ _ (by omega) (by omega) (by omega)]
                exact ⟨rfl, rfl, rfl⟩
              · have c1 := p2.cd hB hx
                rw [c1]
                unfold cdT
                rw [tt _ _ (by omega), tt _ _ (by omega), tt _ _ (by omega), bo _ _ (by omega) (by omega) (by omega), bo _ _ (by omega) (by omega) (by omega), bo _ _ (by omega) (by omega) (by omega)]
              · have c1 := p2.2 (19 + 9 * B) N (by rw [sz]; unfold cfP; omega)
                rw [c1, tt _ _ (by omega)]
                exact b19
              · have c1 := p2.2 (20 + 9 * B) N (by rw [sz]; unfold cfP; omega)
                rw [c1, tt _ _ (by omega)]
                exact b20
              · have pm := p10
                unfold MnQ at pm
                rw [tm] at pm
                exact pm
            refine g_iinc dX1_read_113 (by decide) rfl ⟨by omega, by omega⟩ (show (N : Int) + 1 = ((N + 1 : Nat) : Int) from by omega) rfl ?_
            refine g_goto (tgt := 24) dX1_read_116 (by decide) ?_
            have hlen : (acc ++ [(v, (e, (i + 2, j)))]).length = N + 1 := by rw [List.length_append, hN]; rfl
            rw [if_pos h59] at e0
            by_cases hE : (tkT tx n (j + 1)).1 = 0
            · rw [if_pos hE] at e0
              rw [e0]
              have kk := CI.kn w1 w2
              obtain ⟨a2, v2, hT2'⟩ : ∃ a v, tkT tx n (j + 1) = (a, v) := ⟨_, _, rfl⟩
              rw [hT2'] at kk hE
              have K3 := kn_r kk
              have hE2 : a2 = 0 := hE
              refine cc1_readE hd (by omega) s110 w2.2.2.2.1 (by omega) ⟨hσ4, w2.2.2.2.1, by rw [hlen]; omega, _, RS, ?_, ?_, ?_⟩
              · rw [hlen]
                exact w1.2.1
              · rw [hlen]
                show hI s110 (6 + B) 2 = ((if N + 1 ≤ N then bf (N + 1) else k2 : Nat) : Int)
                rw [if_neg (by omega)]
                exact w2.2.2.2.2.2
              · rw [hlen]
                show (if N + 1 ≤ N then bf (N + 1) else k2 : Nat) ≤ 1200
                rw [if_neg (by omega)]
                have := w2.2.2.2.2.1
                omega
            · rw [if_neg hE] at e0
              rw [e0]
              have hih := ih (acc ++ [(v, (e, (i + 2, j)))]) (j + 1) _ k2 s110 (by rw [hlen]; omega) (by rw [hlen]; exact ⟨w1.1, w1.2.1, w1.2.2.1, ⟨xb, by omega, xW⟩, x5⟩) w2 (by rw [hlen]; show (if N + 1 ≤ N then bf (N + 1) else k2 : Nat) = k2; rw [if_neg (by omega)]) (by omega) RS hσ4 (Or.inr hE)
              rw [hlen] at hih
              exact hih
          · have h59 : ¬ tkT tx n j = (3, 59) := fun w => by
              rw [hTj] at w
              have := hpj 59 w
              omega
            rw [if_neg h59] at e0
            rw [e0]
            obtain ⟨f1, f2, f3, f4⟩ := fl_ok hQ.1 p4 (by omega)
            rw [← h110.2 h59k] at f2 f3 f4
            clear f1 h110
            refine g_iinc dX1_read_113 (by decide) rfl ⟨by omega, by omega⟩ rfl rfl ?_
            refine g_goto (tgt := 24) dX1_read_116 (by decide) ?_
            exact cc1_readF hd (by omega) s110 f3.1 (hσ3.tr (f4 0).fr)
      · have hTe : ¬ tkT tx n (i + 1) = (3, 61) := fun w => by
          rw [hT1] at w
          have := hp1 61 w
          omega
        rw [if_neg hTe] at e0
        rw [e0]
        obtain ⟨f1, f2, f3, f4⟩ := fl_ok t1 t2 (by omega)
        rw [← h99.2 h61] at f2 f3 f4
        clear f1 h99
        exact cc1_readF3 hd ⟨by omega, by omega⟩ s99 f3.1 (hσ2.tr (f4 0).fr)
    have h51 : am_Go lc d 1 3 1 cX1_read 51 [some (vR (some 4)), some (vI (n : Int)), some (vI (N : Int))] [] s (qI fun z u => RdQ B n tx σ (pRA (tkT tx n) (m + 1) acc i) z u) := by
      refine g_aload_n dX1_read_51 rfl ?_
      refine g_getI dX1_read_52 tf_1_49 rfl rfl ?_
      refine g_sipush dX1_read_55 (by decide) ?_
      refine g_icmp_ne (tgt := 85) dX1_read_58 (by decide) (fun c58 => ?_) (fun c58 => ?_)
      · exact h85 (fun w => by omega)
      · refine g_aload_n dX1_read_61 rfl ?_
        refine g_getI dX1_read_62 tf_1_52 rfl rfl ?_
        refine g_callsI dX1_read_65 tm_1_55 rfl ⟨Nat.le_of_ble_eq_true rfl, rfl, rfl⟩ (Nat.le_of_ble_eq_true rfl) (cc1_isKept (by omega) s _) (fun z65 s65 h65 => ?_)
        obtain ⟨h65, e65⟩ := h65
        obtain rfl := e65.symm
        have hv8 : hI s 4 8 = v := by omega
        rw [hv8] at h65
        have hwk : wkS v < 0 ↔ ¬ (622 ≤ v ∧ v < 632) := wkS_lt v
        refine g_if_ne (tgt := 85) dX1_read_68 (by decide) (fun c68 => ?_) (fun c68 => ?_)
        · exact h85 (fun w => by omega)
        · refine g_aload_n dX1_read_71 rfl ?_
          refine g_getA dX1_read_72 tf_1_18 rfl rfl (crf hf hrB) ?_
          refine g_aload_n dX1_read_75 rfl ?_
          refine g_getI dX1_read_76 tf_1_52 rfl rfl ?_
          refine g_callvI dX1_read_79 tm_1_59 rfl ⟨rfl, rfl⟩ (lc_b hb1) (Nat.le_of_ble_eq_true rfl) (cc0_begin (by omega) s hf hB N hsz xN _) (fun z79 s79 h79 => ?_)
          refine g_if_ne (tgt := 89) dX1_read_82 (by decide) (fun c82 => ?_) (fun c82 => ?_)
          · rcases h79 with ⟨z1, z2, z3⟩ | ⟨z1, z2, z3⟩
            · exfalso; omega
            · rw [hv8] at z3
              exact h89 (by omega) (by omega) (by omega) z2 _ z3
          · rcases h79 with ⟨z1, z2, z3⟩ | ⟨z1, z2, z3⟩
            · subst z3
              exact h85 (fun w => by omega)
            · exfalso; omega
    refine g_iload_n dX1_read_24 rfl ?_
    refine g_bipush dX1_read_25 (by decide) ?_
    refine g_icmp_gt (tgt := 119) dX1_read_27 (by decide) (fun c27 => ?_) (fun c27 => ?_)
    · exfalso; omega
    · refine g_aload_n dX1_read_30 rfl ?_
      refine g_getI dX1_read_31 tf_1_32 rfl rfl ?_
      refine g_if_ge (tgt := 119) dX1_read_34 (by decide) (fun c34 => ?_) (fun c34 => ?_)
      · exfalso; omega
      · refine g_iload_n dX1_read_37 rfl ?_
        refine g_if_eq (tgt := 51) dX1_read_38 (by decide) (fun c38 => ?_) (fun c38 => ?_)
        · exact h51
        · refine g_aload_n dX1_read_41 rfl ?_
          refine g_getI dX1_read_42 tf_1_49 rfl rfl ?_
          refine g_sipush dX1_read_45 (by decide) ?_
          refine g_icmp_eq (tgt := 119) dX1_read_48 (by decide) (fun c48 => ?_) (fun c48 => ?_)
          · exfalso; omega
          · exact h51
