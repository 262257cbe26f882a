/-! THE REFERENCE: peers, show -/
/-- the i-th of those behind p, going on around, who handed in; m: how many are left to look at -/
def peF (mn : Nat → Int) (P p : Nat) : Nat → Nat → Int
  | 0, _ => -9
  | m + 1, i => if mn ((p + (P - (m + 1))) % P) = 0 then peF mn P p m i else if i = 0 then (((p + (P - (m + 1))) % P : Nat) : Int) else peF mn P p m (i - 1)
def peS (mn : Nat → Int) (P p : Nat) (i : Int) : Int := if 0 ≤ i ∧ i < 2 then peF mn P p (P - 1) i.toNat else -9
theorem peF_r (mn : Nat → Int) {P : Nat} (p : Nat) : ∀ (m i : Nat), m < P → peF mn P p m i = -9 ∨ (0 ≤ peF mn P p m i ∧ peF mn P p m i < (P : Int))
  | 0, _, _ => Or.inl rfl
  | m + 1, i, h => by
    unfold peF
    have hm := Nat.mod_lt (p + (P - (m + 1))) (show 0 < P by omega)
    split
    · exact peF_r mn p m i (by omega)
    · split
      · exact Or.inr ⟨by omega, by omega⟩
      · exact peF_r mn p m _ (by omega)
theorem bl_r (o : Nat) : -2147483648 ≤ bl o ∧ bh o ≤ 2147483647 := by
  refine ⟨?_, ?_⟩
  · unfold bl; split <;> omega
  · unfold bh; split <;> omega
theorem rgM.u {σ : am_HS} (h : rgM σ) {o k : Nat} {x : Int} (hx : bl o ≤ x ∧ x ≤ bh o) : rgM (uI σ o k x) := by
  intro a b
  have hr := bl_r o
  by_cases e : a = o ∧ b = k
  · rw [e.1, e.2, hI_uI_e ⟨by omega, by omega⟩]
    exact hx
  · rw [hI_uI_n e]
    exact h a b
abbrev mnM (σ : am_HS) (w : Nat) : Nat → Int := fun q => hI σ 10 (10 * q + w)
section SWROWS
variable {lay : am_L} {d c nL rt : Nat} {bb : ByteArray} {pc : Nat} {lv : am_LV} {st r : List am_V} {σ : am_HS} {Q : Option am_V → am_HS → Prop}
theorem g_tsw_out {x df lo hi : Int} {offs : Array Int} {len tgt : Nat} (hd : decode bb pc = .ok (.tableswitch df lo hi offs, len)) (h : x < lo ∨ hi < x) (ht : (pc : Int) + df = (tgt : Int)) (h1 : am_Go lay d c nL rt bb tgt lv st σ Q) : am_Go lay d c nL rt bb pc lv (vI x :: st) σ Q := g_table hd (fun _ => ⟨tgt, ht, h1⟩) (fun a b => absurd h (by omega))
theorem g_tsw_in {x df lo hi off : Int} {offs : Array Int} {len tgt : Nat} (hd : decode bb pc = .ok (.tableswitch df lo hi offs, len)) (h : lo ≤ x ∧ x ≤ hi) (ho : offs[(x - lo).toNat]? = some off) (ht : (pc : Int) + off = (tgt : Int)) (h1 : am_Go lay d c nL rt bb tgt lv st σ Q) : am_Go lay d c nL rt bb pc lv (vI x :: st) σ Q := g_table hd (fun a => absurd h (by omega)) (fun _ _ => ⟨off, tgt, ho, ht, h1⟩)
end SWROWS

theorem cm_peerOf {D : Nat} (hD : 2 ≤ D) (σ : am_HS) (hf : σ.2.2 = mH) (hb : rgM σ) (P : Nat) (hP : hI σ 0 1 = (P : Int)) (hP6 : P ≤ 6) (p w : Nat) (hp : p < P) (hw : w < 10) (i : Int) : am_Do lm D mX7_peerOf σ [vR (some 0), vI (p : Int), vI (w : Int), vI i] (qI fun z s => z = peS (mnM σ w) P p i ∧ s = σ) := by
  obtain ⟨d, rfl⟩ : ∃ d, D = d + 1 := ⟨D - 1, by omega⟩
  refine am_enter rfl rfl (Nat.le_of_ble_eq_true rfl) ?_
  have loop : 0 ≤ i ∧ i < 2 → ∀ (m k j : Nat) (o6 : Option am_V), k + m = P → peF (mnM σ w) P p m j = peS (mnM σ w) P p i → j < 2 → am_Go lm d 7 7 1 cX7_peerOf 6 [some (vR (some 0)), some (vI (p : Int)), some (vI (w : Int)), some (vI i), some (vI (j : Int)), some (vI (k : Int)), o6] [] σ (qI fun z s => z = peS (mnM σ w) P p i ∧ s = σ) := by
    intro hi m
    induction m with
    | zero =>
      intro k j o6 hk he hj
      refine g_iload dX7_peerOf_6 rfl ?_
      refine g_aload_n dX7_peerOf_8 rfl ?_
      refine g_getI dX7_peerOf_9 tf_7_137 rfl rfl ?_
      refine g_icmp_ge (tgt := 69) dX7_peerOf_12 (by decide) (fun c12 => ?_) (fun c12 => ?_)
      · refine g_bipush dX7_peerOf_69 (by decide) ?_
        refine g_ireturn dX7_peerOf_71 (Or.inl rfl) ⟨_, rfl, ?_⟩
        exact ⟨he, rfl⟩
      · exfalso; omega
    | succ m ih =>
      intro k j o6 hk he hj
      have hm := Nat.mod_lt (p + k) (show 0 < P by omega)
      have ek : P - (m + 1) = k := by omega
      unfold peF at he
      rw [ek] at he
      refine g_iload dX7_peerOf_6 rfl ?_
      refine g_aload_n dX7_peerOf_8 rfl ?_
      refine g_getI dX7_peerOf_9 tf_7_137 rfl rfl ?_
      refine g_icmp_ge (tgt := 69) dX7_peerOf_12 (by decide) (fun c12 => ?_) (fun c12 => ?_)
      · exfalso; omega
      · refine g_iload_n dX7_peerOf_15 rfl ?_
        refine g_if_lt (tgt := 69) dX7_peerOf_16 (by decide) (fun c16 => ?_) (fun c16 => ?_)
        · exfalso; omega
        · refine g_iload_n dX7_peerOf_19 rfl ?_
          refine g_iconst dX7_peerOf_20 ⟨by decide, by decide⟩ ?_
          refine g_icmp_ge (tgt := 69) dX7_peerOf_21 (by decide) (fun c21 => ?_) (fun c21 => ?_)
          · exfalso; omega
          · refine g_iload_n dX7_peerOf_24 rfl ?_
            refine g_iload dX7_peerOf_25 rfl ?_
            refine g_iadd dX7_peerOf_27 rfl ⟨by omega, by omega⟩ ?_
            refine g_aload_n dX7_peerOf_28 rfl ?_
            refine g_getI dX7_peerOf_29 tf_7_137 rfl rfl ?_
            refine g_irem dX7_peerOf_32 (by omega) (show ((p : Int) + (k : Int)).tmod (hI σ 0 1) = (((p + k) % P : Nat) : Int) from by rw [hP, ← Int.natCast_add, ← Int.ofNat_tmod]) ⟨by omega, by omega⟩ ?_
            refine g_istore dX7_peerOf_33 (by decide) rfl ?_
            refine g_aload_n dX7_peerOf_35 rfl ?_
            refine g_getA dX7_peerOf_36 tf_7_37 rfl rfl (mrf hf rfl) ?_
            refine g_iload dX7_peerOf_39 rfl ?_
            refine g_iload_n dX7_peerOf_41 rfl ?_
            refine g_callsI dX7_peerOf_42 tm_7_159 rfl ⟨Nat.le_of_ble_eq_true rfl, rfl, rfl⟩ (Nat.le_of_ble_eq_true rfl) (cm_spot (by omega) _ _ _ ⟨by omega, by omega⟩ ⟨by omega, by omega⟩) (fun z42 s42 h42 => ?_)
            obtain ⟨rfl, e42⟩ := h42
            obtain rfl := e42.symm
            refine g_ialdN (10 * ((p + k) % P) + w) dX7_peerOf_45 rfl (by omega) (by omega) ?_
            refine g_if_ne (tgt := 52) dX7_peerOf_46 (by decide) (fun c46 => ?_) (fun c46 => ?_)
            · rw [if_neg (show ¬ mnM σ w ((p + k) % P) = 0 from c46)] at he
              refine g_iload dX7_peerOf_52 rfl ?_
              refine g_if_ne (tgt := 60) dX7_peerOf_54 (by decide) (fun c54 => ?_) (fun c54 => ?_)
              · rw [if_neg (by omega)] at he
                refine g_iinc dX7_peerOf_60 (by decide) rfl ⟨by omega, by omega⟩ (show (j : Int) + -1 = ((j - 1 : Nat) : Int) from by omega) rfl ?_
                refine g_iinc dX7_peerOf_63 (by decide) rfl ⟨by omega, by omega⟩ (show (k : Int) + 1 = ((k + 1 : Nat) : Int) from by omega) rfl ?_
                refine g_goto (tgt := 6) dX7_peerOf_66 (by decide) ?_
                first
                  | exact ih (k + 1) j _ (by omega) he hj
                  | exact ih (k + 1) (j - 1) _ (by omega) he (by omega)
              · rw [if_pos (by omega)] at he
                refine g_iload dX7_peerOf_57 rfl ?_
                refine g_ireturn dX7_peerOf_59 (Or.inl rfl) ⟨_, rfl, ?_⟩
                exact ⟨he, rfl⟩
            · rw [if_pos (show mnM σ w ((p + k) % P) = 0 from Classical.not_not.mp c46)] at he
              refine g_goto (tgt := 63) dX7_peerOf_49 (by decide) ?_
              refine g_iinc dX7_peerOf_63 (by decide) rfl ⟨by omega, by omega⟩ (show (k : Int) + 1 = ((k + 1 : Nat) : Int) from by omega) rfl ?_
              refine g_goto (tgt := 6) dX7_peerOf_66 (by decide) ?_
              first
                | exact ih (k + 1) j _ (by omega) he hj
                | exact ih (k + 1) (j - 1) _ (by omega) he (by omega)
  by_cases hi : 0 ≤ i ∧ i < 2
  · obtain ⟨j, rfl⟩ : ∃ j : Nat, i = (j : Int) := ⟨i.toNat, by omega⟩
    refine g_iload_n dX7_peerOf_0 rfl ?_
    refine g_istore dX7_peerOf_1 (by decide) rfl ?_
    refine g_iconst dX7_peerOf_3 ⟨by decide, by decide⟩ ?_
    refine g_istore dX7_peerOf_4 (by decide) rfl ?_
    exact loop hi (P - 1) 1 j none (by omega) (by unfold peS; rw [if_pos hi, Int.toNat_natCast]) (by omega)
  · have e9 : peS (mnM σ w) P p i = -9 := if_neg hi
    refine g_iload_n dX7_peerOf_0 rfl ?_
    refine g_istore dX7_peerOf_1 (by decide) rfl ?_
    refine g_iconst dX7_peerOf_3 ⟨by decide, by decide⟩ ?_
    refine g_istore dX7_peerOf_4 (by decide) rfl ?_
    refine g_iload dX7_peerOf_6 rfl ?_
    refine g_aload_n dX7_peerOf_8 rfl ?_
    refine g_getI dX7_peerOf_9 tf_7_137 rfl rfl ?_
    refine g_icmp_ge (tgt := 69) dX7_peerOf_12 (by decide) (fun c12 => ?_) (fun c12 => ?_)
    · refine g_bipush dX7_peerOf_69 (by decide) ?_
      refine g_ireturn dX7_peerOf_71 (Or.inl rfl) ⟨_, rfl, ?_⟩
      exact ⟨e9.symm, rfl⟩
    · refine g_iload_n dX7_peerOf_15 rfl ?_
      refine g_if_lt (tgt := 69) dX7_peerOf_16 (by decide) (fun c16 => ?_) (fun c16 => ?_)
      · refine g_bipush dX7_peerOf_69 (by decide) ?_
        refine g_ireturn dX7_peerOf_71 (Or.inl rfl) ⟨_, rfl, ?_⟩
        exact ⟨e9.symm, rfl⟩
      · refine g_iload_n dX7_peerOf_19 rfl ?_
        refine g_iconst dX7_peerOf_20 ⟨by decide, by decide⟩ ?_
        refine g_icmp_ge (tgt := 69) dX7_peerOf_21 (by decide) (fun c21 => ?_) (fun c21 => ?_)
        · refine g_bipush dX7_peerOf_69 (by decide) ?_
          refine g_ireturn dX7_peerOf_71 (Or.inl rfl) ⟨_, rfl, ?_⟩
          exact ⟨e9.symm, rfl⟩
        · exfalso; omega
theorem cm_peer {D : Nat} (hD : 4 ≤ D) (σ : am_HS) (hf : σ.2.2 = mH) (hb : rgM σ) (hg : GM σ) (P : Nat) (hP : hI σ 0 1 = (P : Int)) (p w i : Int) : am_Do lm D mX7_peer σ [vR (some 0), vI p, vI w, vI i] (qI fun z s => (¬ (0 ≤ p ∧ p < hI σ 0 1 ∧ 0 ≤ w ∧ w < hI σ 0 2) ∧ z = -1 ∧ s = uI σ 1 1 (hI σ 1 1 + 1)) ∨ ((0 ≤ p ∧ p < hI σ 0 1 ∧ 0 ≤ w ∧ w < hI σ 0 2) ∧ (¬ (hI σ 3 w.toNat = 3 ∧ 0 < hI σ 10 (10 * p.toNat + w.toNat)) ∧ z = -3 ∧ s = uI σ 1 3 (hI σ 1 3 + 1) ∨ (hI σ 3 w.toNat = 3 ∧ 0 < hI σ 10 (10 * p.toNat + w.toNat)) ∧ z = peS (mnM σ w.toNat) P p.toNat i ∧ s = σ))) := by
  obtain ⟨hg1, hg2, hrf⟩ := id hg
  obtain ⟨d, rfl⟩ : ∃ d, D = d + 1 := ⟨D - 1, by omega⟩
  refine am_enter rfl rfl (Nat.le_of_ble_eq_true rfl) ?_
  refine g_aload_n dX7_peer_0 rfl ?_
  refine g_iload_n dX7_peer_1 rfl ?_
  refine g_callvI dX7_peer_2 tm_7_151 rfl ⟨rfl, rfl⟩ rfl (Nat.le_of_ble_eq_true rfl) (cm_isPupil (by omega) σ _) (fun z2 s2 h2 => ?_)
  obtain ⟨h2, e2⟩ := h2
  obtain rfl := e2.symm
  refine g_if_eq (tgt := 16) dX7_peer_5 (by decide) (fun c5 => ?_) (fun c5 => ?_)
  · refine g_aload_n dX7_peer_16 rfl ?_
    refine g_iconst dX7_peer_17 ⟨by decide, by decide⟩ ?_
    refine g_callvI dX7_peer_18 tm_7_133 rfl ⟨rfl, rfl⟩ rfl (Nat.le_of_ble_eq_true rfl) (cm_refuse (by omega) σ hf _ ⟨by omega, by omega⟩ hg.2.2) (fun z18 s18 h18 => ?_)
    obtain ⟨rfl, rfl⟩ := h18
    refine g_ireturn dX7_peer_21 (Or.inl rfl) ⟨_, rfl, ?_⟩
    first
      | exact Or.inl ⟨by omega, rfl, rfl⟩
      | exact Or.inr ⟨by omega, Or.inl ⟨by rcases h25 with ⟨a, b⟩ | ⟨a, b⟩; exact absurd (a.symm.trans c28) (by decide); exact b, rfl, rfl⟩⟩
      | exact Or.inr ⟨by omega, Or.inr ⟨by rcases h25 with ⟨a, b⟩ | ⟨a, b⟩; exact b; exact absurd a c28, rfl, rfl⟩⟩
  · refine g_aload_n dX7_peer_8 rfl ?_
    refine g_iload_n dX7_peer_9 rfl ?_
    refine g_callvI dX7_peer_10 tm_7_156 rfl ⟨rfl, rfl⟩ rfl (Nat.le_of_ble_eq_true rfl) (cm_isWork (by omega) σ _) (fun z10 s10 h10 => ?_)
    obtain ⟨h10, e10⟩ := h10
    obtain rfl := e10.symm
    refine g_if_ne (tgt := 22) dX7_peer_13 (by decide) (fun c13 => ?_) (fun c13 => ?_)
    · obtain ⟨p, rfl⟩ : ∃ q : Nat, p = (q : Int) := ⟨p.toNat, by omega⟩
      obtain ⟨w, rfl⟩ : ∃ q : Nat, w = (q : Int) := ⟨w.toNat, by omega⟩
      have hp : p < 6 := by omega
      have hw : w < 10 := by omega
      simp only [Int.toNat_natCast]
      refine g_aload_n dX7_peer_22 rfl ?_
      refine g_iload_n dX7_peer_23 rfl ?_
      refine g_iload_n dX7_peer_24 rfl ?_
      refine g_callvI dX7_peer_25 tm_7_382 rfl ⟨rfl, rfl⟩ rfl (Nat.le_of_ble_eq_true rfl) (cm_isShown (by omega) σ hf p w hp hw) (fun z25 s25 h25 => ?_)
      obtain ⟨h25, e25⟩ := h25
      obtain rfl := e25.symm
      refine g_if_eq (tgt := 41) dX7_peer_28 (by decide) (fun c28 => ?_) (fun c28 => ?_)
      · refine g_aload_n dX7_peer_41 rfl ?_
        refine g_bipush dX7_peer_42 (by decide) ?_
        refine g_callvI dX7_peer_44 tm_7_133 rfl ⟨rfl, rfl⟩ rfl (Nat.le_of_ble_eq_true rfl) (cm_refuse (by omega) σ hf _ ⟨by omega, by omega⟩ hg.2.2) (fun z44 s44 h44 => ?_)
        obtain ⟨rfl, rfl⟩ := h44
        refine g_ireturn dX7_peer_47 (Or.inl rfl) ⟨_, rfl, ?_⟩
        first
          | exact Or.inl ⟨by omega, rfl, rfl⟩
          | exact Or.inr ⟨by omega, Or.inl ⟨by rcases h25 with ⟨a, b⟩ | ⟨a, b⟩; exact absurd (a.symm.trans c28) (by decide); exact b, rfl, rfl⟩⟩
          | exact Or.inr ⟨by omega, Or.inr ⟨by rcases h25 with ⟨a, b⟩ | ⟨a, b⟩; exact b; exact absurd a c28, rfl, rfl⟩⟩
      · refine g_aload_n dX7_peer_31 rfl ?_
        refine g_iload_n dX7_peer_32 rfl ?_
        refine g_iload_n dX7_peer_33 rfl ?_
        refine g_iload_n dX7_peer_34 rfl ?_
        refine g_callvI dX7_peer_35 tm_7_385 rfl ⟨rfl, rfl⟩ rfl (Nat.le_of_ble_eq_true rfl) (cm_peerOf (by omega) σ hf hb P hP (by omega) p w (by omega) hw i) (fun z35 s35 h35 => ?_)
        obtain ⟨rfl, e35⟩ := h35
        obtain rfl := e35.symm
        refine g_goto (tgt := 47) dX7_peer_38 (by decide) ?_
        refine g_ireturn dX7_peer_47 (Or.inl rfl) ⟨_, rfl, ?_⟩
        first
          | exact Or.inl ⟨by omega, rfl, rfl⟩
          | exact Or.inr ⟨by omega, Or.inl ⟨by rcases h25 with ⟨a, b⟩ | ⟨a, b⟩; exact absurd (a.symm.trans c28) (by decide); exact b, rfl, rfl⟩⟩
          | exact Or.inr ⟨by omega, Or.inr ⟨by rcases h25 with ⟨a, b⟩ | ⟨a, b⟩; exact b; exact absurd a c28, rfl, rfl⟩⟩
    · refine g_aload_n dX7_peer_16 rfl ?_
      refine g_iconst dX7_peer_17 ⟨by decide, by decide⟩ ?_
      refine g_callvI dX7_peer_18 tm_7_133 rfl ⟨rfl, rfl⟩ rfl (Nat.le_of_ble_eq_true rfl) (cm_refuse (by omega) σ hf _ ⟨by omega, by omega⟩ hg.2.2) (fun z18 s18 h18 => ?_)
      obtain ⟨rfl, rfl⟩ := h18
      refine g_ireturn dX7_peer_21 (Or.inl rfl) ⟨_, rfl, ?_⟩
      first
        | exact Or.inl ⟨by omega, rfl, rfl⟩
        | exact Or.inr ⟨by omega, Or.inl ⟨by rcases h25 with ⟨a, b⟩ | ⟨a, b⟩; exact absurd (a.symm.trans c28) (by decide); exact b, rfl, rfl⟩⟩
        | exact Or.inr ⟨by omega, Or.inr ⟨by rcases h25 with ⟨a, b⟩ | ⟨a, b⟩; exact b; exact absurd a c28, rfl, rfl⟩⟩

theorem cm_show {D : Nat} (hD : 4 ≤ D) (σ : am_HS) (hf : σ.2.2 = mH) (hb : rgM σ) (hg : GM σ) (hmk : 0 ≤ hI σ 0 5 ∧ hI σ 0 5 ≤ 100000) (P : Nat) (hP : hI σ 0 1 = (P : Int)) (b p w v : Int) : am_Do lm D mX7_show σ [vR (some 0), vI b, vI p, vI w, vI v] (qI fun z s => (¬ (0 ≤ b ∧ b < hI σ 0 1 ∧ 0 ≤ p ∧ p < hI σ 0 1 ∧ 0 ≤ w ∧ w < hI σ 0 2) ∧ z = -1 ∧ s = uI σ 1 1 (hI σ 1 1 + 1)) ∨ ((0 ≤ b ∧ b < hI σ 0 1 ∧ 0 ≤ p ∧ p < hI σ 0 1 ∧ 0 ≤ w ∧ w < hI σ 0 2) ∧ (¬ ((hI σ 3 w.toNat = 3 ∧ 0 < hI σ 10 (10 * p.toNat + w.toNat)) ∧ (peS (mnM σ w.toNat) P p.toNat 0 = b ∨ peS (mnM σ w.toNat) P p.toNat 1 = b) ∧ hI σ 14 (6 * (10 * p.toNat + w.toNat) + b.toNat) < 0) ∧ z = -3 ∧ s = uI σ 1 3 (hI σ 1 3 + 1) ∨ ((hI σ 3 w.toNat = 3 ∧ 0 < hI σ 10 (10 * p.toNat + w.toNat)) ∧ (peS (mnM σ w.toNat) P p.toNat 0 = b ∨ peS (mnM σ w.toNat) P p.toNat 1 = b) ∧ hI σ 14 (6 * (10 * p.toNat + w.toNat) + b.toNat) < 0) ∧ (v < 0 ∧ z = -4 ∧ s = uI σ 1 4 (hI σ 1 4 + 1) ∨ 0 ≤ v ∧ hI σ 4 w.toNat < v ∧ z = -6 ∧ s = uI σ 1 6 (hI σ 1 6 + 1) ∨ 0 ≤ v ∧ v ≤ hI σ 4 w.toNat ∧ s = uI (uI σ 14 (6 * (10 * p.toNat + w.toNat) + b.toNat) v) 0 5 (hI σ 0 5 + 1) ∧ z = cntS (fun q => hI s 14 (6 * (10 * p.toNat + w.toNat) + q)) 6)))) := by
  obtain ⟨hg1, hg2, hrf⟩ := id hg
  obtain ⟨d, rfl⟩ : ∃ d, D = d + 1 := ⟨D - 1, by omega⟩
  refine am_enter rfl rfl (Nat.le_of_ble_eq_true rfl) ?_
  refine g_aload_n dX7_show_0 rfl ?_
  refine g_iload_n dX7_show_1 rfl ?_
  refine g_callvI dX7_show_2 tm_7_151 rfl ⟨rfl, rfl⟩ rfl (Nat.le_of_ble_eq_true rfl) (cm_isPupil (by omega) σ _) (fun z2 s2 h2 => ?_)
  obtain ⟨h2, e2⟩ := h2
  obtain rfl := e2.symm
  refine g_if_eq (tgt := 24) dX7_show_5 (by decide) (fun c5 => ?_) (fun c5 => ?_)
  · refine g_aload_n dX7_show_24 rfl ?_
    refine g_iconst dX7_show_25 ⟨by decide, by decide⟩ ?_
    refine g_callvI dX7_show_26 tm_7_133 rfl ⟨rfl, rfl⟩ rfl (Nat.le_of_ble_eq_true rfl) (cm_refuse (by omega) σ hf _ ⟨by omega, by omega⟩ hg.2.2) (fun z26 s26 h26 => ?_)
    obtain ⟨rfl, rfl⟩ := h26
    refine g_ireturn dX7_show_29 (Or.inl rfl) ⟨_, rfl, ?_⟩
    first
      | exact Or.inl ⟨by omega, rfl, rfl⟩
      | exact Or.inr ⟨hin, Or.inl ⟨fun hpe => by rcases h45 with ⟨a, b⟩ | ⟨a, b⟩; (first | exact absurd (a.symm.trans c48) (by decide) | (clear hf hb; omega)); (first | exact b hpe.1 | exact absurd a c48), rfl, rfl⟩⟩
      | exact Or.inr ⟨hin, Or.inr ⟨hpe, Or.inl ⟨by omega, rfl, rfl⟩⟩⟩
      | exact Or.inr ⟨hin, Or.inr ⟨hpe, Or.inr (Or.inl ⟨by omega, by omega, rfl, rfl⟩)⟩⟩
      | exact Or.inr ⟨hin, Or.inr ⟨hpe, Or.inr (Or.inr ⟨by omega, by omega, rfl, rfl⟩)⟩⟩
  · refine g_aload_n dX7_show_8 rfl ?_
    refine g_iload_n dX7_show_9 rfl ?_
    refine g_callvI dX7_show_10 tm_7_151 rfl ⟨rfl, rfl⟩ rfl (Nat.le_of_ble_eq_true rfl) (cm_isPupil (by omega) σ _) (fun z10 s10 h10 => ?_)
    obtain ⟨h10, e10⟩ := h10
    obtain rfl := e10.symm
    refine g_if_eq (tgt := 24) dX7_show_13 (by decide) (fun c13 => ?_) (fun c13 => ?_)
    · refine g_aload_n dX7_show_24 rfl ?_
      refine g_iconst dX7_show_25 ⟨by decide, by decide⟩ ?_
      refine g_callvI dX7_show_26 tm_7_133 rfl ⟨rfl, rfl⟩ rfl (Nat.le_of_ble_eq_true rfl) (cm_refuse (by omega) σ hf _ ⟨by omega, by omega⟩ hg.2.2) (fun z26 s26 h26 => ?_)
      obtain ⟨rfl, rfl⟩ := h26
      refine g_ireturn dX7_show_29 (Or.inl rfl) ⟨_, rfl, ?_⟩
      first
        | exact Or.inl ⟨by omega, rfl, rfl⟩
        | exact Or.inr ⟨hin, Or.inl ⟨fun hpe => by rcases h45 with ⟨a, b⟩ | ⟨a, b⟩; (first | exact absurd (a.symm.trans c48) (by decide) | (clear hf hb; omega)); (first | exact b hpe.1 | exact absurd a c48), rfl, rfl⟩⟩
        | exact Or.inr ⟨hin, Or.inr ⟨hpe, Or.inl ⟨by omega, rfl, rfl⟩⟩⟩
        | exact Or.inr ⟨hin, Or.inr ⟨hpe, Or.inr (Or.inl ⟨by omega, by omega, rfl, rfl⟩)⟩⟩
        | exact Or.inr ⟨hin, Or.inr ⟨hpe, Or.inr (Or.inr ⟨by omega, by omega, rfl, rfl⟩)⟩⟩
    · refine g_aload_n dX7_show_16 rfl ?_
      refine g_iload_n dX7_show_17 rfl ?_
      refine g_callvI dX7_show_18 tm_7_156 rfl ⟨rfl, rfl⟩ rfl (Nat.le_of_ble_eq_true rfl) (cm_isWork (by omega) σ _) (fun z18 s18 h18 => ?_)
      obtain ⟨h18, e18⟩ := h18
      obtain rfl := e18.symm
      refine g_if_ne (tgt := 30) dX7_show_21 (by decide) (fun c21 => ?_) (fun c21 => ?_)
      · obtain ⟨p, rfl⟩ : ∃ q : Nat, p = (q : Int) := ⟨p.toNat, by omega⟩
        obtain ⟨w, rfl⟩ : ∃ q : Nat, w = (q : Int) := ⟨w.toNat, by omega⟩
        have hp : p < 6 := by omega
        have hw : w < 10 := by omega
        simp only [Int.toNat_natCast]
        obtain ⟨b, rfl⟩ : ∃ q : Nat, b = (q : Int) := ⟨b.toNat, by omega⟩
        simp only [Int.toNat_natCast]
        have hmo : 0 ≤ hI σ 4 w ∧ hI σ 4 w ≤ 20 := hb 4 w
        have hin : (0 ≤ (b : Int) ∧ (b : Int) < hI σ 0 1 ∧ 0 ≤ (p : Int) ∧ (p : Int) < hI σ 0 1 ∧ 0 ≤ (w : Int) ∧ (w : Int) < hI σ 0 2) := by omega
        refine g_bipush dX7_show_30 (by decide) ?_
        refine g_iload_n dX7_show_32 rfl ?_
        refine g_iload_n dX7_show_33 rfl ?_
        refine g_callsI dX7_show_34 tm_7_159 rfl ⟨Nat.le_of_ble_eq_true rfl, rfl, rfl⟩ (Nat.le_of_ble_eq_true rfl) (cm_spot (by omega) _ _ _ ⟨by omega, by omega⟩ ⟨by omega, by omega⟩) (fun z34 s34 h34 => ?_)
        obtain ⟨rfl, e34⟩ := h34
        obtain rfl := e34.symm
        refine g_imul dX7_show_37 rfl ⟨by omega, by omega⟩ ?_
        refine g_iload_n dX7_show_38 rfl ?_
        refine g_iadd dX7_show_39 rfl ⟨by omega, by omega⟩ ?_
        refine g_istore dX7_show_40 (by decide) rfl ?_
        refine g_aload_n dX7_show_42 rfl ?_
        refine g_iload_n dX7_show_43 rfl ?_
        refine g_iload_n dX7_show_44 rfl ?_
        refine g_callvI dX7_show_45 tm_7_382 rfl ⟨rfl, rfl⟩ rfl (Nat.le_of_ble_eq_true rfl) (cm_isShown (by omega) σ hf p w hp hw) (fun z45 s45 h45 => ?_)
        obtain ⟨h45, e45⟩ := h45
        obtain rfl := e45.symm
        refine g_if_eq (tgt := 83) dX7_show_48 (by decide) (fun c48 => ?_) (fun c48 => ?_)
        · refine g_aload_n dX7_show_83 rfl ?_
          refine g_bipush dX7_show_84 (by decide) ?_
          refine g_callvI dX7_show_86 tm_7_133 rfl ⟨rfl, rfl⟩ rfl (Nat.le_of_ble_eq_true rfl) (cm_refuse (by omega) σ hf _ ⟨by omega, by omega⟩ hg.2.2) (fun z86 s86 h86 => ?_)
          obtain ⟨rfl, rfl⟩ := h86
          refine g_ireturn dX7_show_89 (Or.inl rfl) ⟨_, rfl, ?_⟩
          first
            | exact Or.inl ⟨by omega, rfl, rfl⟩
            | exact Or.inr ⟨hin, Or.inl ⟨fun hpe => by rcases h45 with ⟨a, b⟩ | ⟨a, b⟩; (first | exact absurd (a.symm.trans c48) (by decide) | (clear hf hb; omega)); (first | exact b hpe.1 | exact absurd a c48), rfl, rfl⟩⟩
            | exact Or.inr ⟨hin, Or.inr ⟨hpe, Or.inl ⟨by omega, rfl, rfl⟩⟩⟩
            | exact Or.inr ⟨hin, Or.inr ⟨hpe, Or.inr (Or.inl ⟨by omega, by omega, rfl, rfl⟩)⟩⟩
            | exact Or.inr ⟨hin, Or.inr ⟨hpe, Or.inr (Or.inr ⟨by omega, by omega, rfl, rfl⟩)⟩⟩
        · refine g_aload_n dX7_show_51 rfl ?_
          refine g_iload_n dX7_show_52 rfl ?_
          refine g_iload_n dX7_show_53 rfl ?_
          refine g_iconst dX7_show_54 ⟨by decide, by decide⟩ ?_
          refine g_callvI dX7_show_55 tm_7_385 rfl ⟨rfl, rfl⟩ rfl (Nat.le_of_ble_eq_true rfl) (cm_peerOf (by omega) σ hf hb P hP (by omega) p w (by clear h45; omega) hw 0) (fun z55 s55 h55 => ?_)
          obtain ⟨rfl, e55⟩ := h55
          obtain rfl := e55.symm
          refine g_iload_n dX7_show_58 rfl ?_
          refine g_icmp_eq (tgt := 73) dX7_show_59 (by decide) (fun c59 => ?_) (fun c59 => ?_)
          · refine g_aload_n dX7_show_73 rfl ?_
            refine g_getA dX7_show_74 tf_7_49 rfl rfl (mrf hf rfl) ?_
            refine g_iload dX7_show_77 rfl ?_
            refine g_ialdN (6 * (10 * p + w) + b) dX7_show_79 rfl (by omega) (by omega) ?_
            refine g_if_lt (tgt := 90) dX7_show_80 (by decide) (fun c80 => ?_) (fun c80 => ?_)
            · have hpe : ((hI σ 3 w = 3 ∧ 0 < hI σ 10 (10 * p + w)) ∧ (peS (mnM σ w) P p 0 = (b : Int) ∨ peS (mnM σ w) P p 1 = (b : Int)) ∧ hI σ 14 (6 * (10 * p + w) + b) < 0) := ⟨by rcases h45 with ⟨a, b⟩ | ⟨a, b⟩; exact b; exact absurd a c48, by omega, by clear h45; omega⟩
              clear h45
              refine g_iload dX7_show_90 rfl ?_
              refine g_if_ge (tgt := 102) dX7_show_92 (by decide) (fun c92 => ?_) (fun c92 => ?_)
              · refine g_iload dX7_show_102 rfl ?_
                refine g_aload_n dX7_show_104 rfl ?_
                refine g_getA dX7_show_105 tf_7_19 rfl rfl (mrf hf rfl) ?_
                refine g_iload_n dX7_show_108 rfl ?_
                refine g_ialdN (w) dX7_show_109 rfl (by omega) (by omega) ?_
                refine g_icmp_le (tgt := 120) dX7_show_110 (by decide) (fun c110 => ?_) (fun c110 => ?_)
                · refine g_aload_n dX7_show_120 rfl ?_
                  refine g_getA dX7_show_121 tf_7_49 rfl rfl (mrf hf rfl) ?_
                  refine g_iload dX7_show_124 rfl ?_
                  refine g_iload dX7_show_126 rfl ?_
                  refine g_iastN (6 * (10 * p + w) + b) dX7_show_128 rfl (by omega) (by omega) ?_
                  refine g_aload_n dX7_show_129 rfl ?_
                  refine g_dup dX7_show_130 rfl ?_
                  refine g_getI dX7_show_131 tf_7_379 rfl rfl ?_
                  rw [hI_uI_n (by omega)]
                  refine g_iconst dX7_show_134 ⟨by decide, by decide⟩ ?_
                  refine g_iadd dX7_show_135 rfl ⟨by omega, by omega⟩ ?_
                  refine g_putI dX7_show_136 tf_7_379 rfl rfl rfl ?_
                  refine g_aload_n dX7_show_139 rfl ?_
                  refine g_iload_n dX7_show_140 rfl ?_
                  refine g_iload_n dX7_show_141 rfl ?_
                  refine g_callvI dX7_show_142 tm_7_311 rfl ⟨rfl, rfl⟩ rfl (Nat.le_of_ble_eq_true rfl) (cm_peerMarks (by omega) (uI (uI σ 14 (6 * (10 * p + w) + b) v) 0 5 (hI σ 0 5 + 1)) hf ((hb.u ⟨by show (-1 : Int) ≤ v; omega, by show v ≤ (20 : Int); omega⟩).u ⟨by show (-2147483648 : Int) ≤ _; omega, by show _ ≤ (2147483647 : Int); omega⟩) p w hp hw) (fun z142 s142 h142 => ?_)
                  obtain ⟨rfl, e142⟩ := h142
                  obtain rfl := e142.symm
                  refine g_ireturn dX7_show_145 (Or.inl rfl) ⟨_, rfl, ?_⟩
                  first
                    | exact Or.inl ⟨by omega, rfl, rfl⟩
                    | exact Or.inr ⟨hin, Or.inl ⟨fun hpe => by rcases h45 with ⟨a, b⟩ | ⟨a, b⟩; (first | exact absurd (a.symm.trans c48) (by decide) | (clear hf hb; omega)); (first | exact b hpe.1 | exact absurd a c48), rfl, rfl⟩⟩
                    | exact Or.inr ⟨hin, Or.inr ⟨hpe, Or.inl ⟨by omega, rfl, rfl⟩⟩⟩
                    | exact Or.inr ⟨hin, Or.inr ⟨hpe, Or.inr (Or.inl ⟨by omega, by omega, rfl, rfl⟩)⟩⟩
                    | exact Or.inr ⟨hin, Or.inr ⟨hpe, Or.inr (Or.inr ⟨by omega, by omega, rfl, rfl⟩)⟩⟩
                · refine g_aload_n dX7_show_113 rfl ?_
                  refine g_bipush dX7_show_114 (by decide) ?_
                  refine g_callvI dX7_show_116 tm_7_133 rfl ⟨rfl, rfl⟩ rfl (Nat.le_of_ble_eq_true rfl) (cm_refuse (by omega) σ hf _ ⟨by omega, by omega⟩ hg.2.2) (fun z116 s116 h116 => ?_)
                  obtain ⟨rfl, rfl⟩ := h116
                  refine g_ireturn dX7_show_119 (Or.inl rfl) ⟨_, rfl, ?_⟩
                  first
                    | exact Or.inl ⟨by omega, rfl, rfl⟩
                    | exact Or.inr ⟨hin, Or.inl ⟨fun hpe => by rcases h45 with ⟨a, b⟩ | ⟨a, b⟩; (first | exact absurd (a.symm.trans c48) (by decide) | (clear hf hb; omega)); (first | exact b hpe.1 | exact absurd a c48), rfl, rfl⟩⟩
                    | exact Or.inr ⟨hin, Or.inr ⟨hpe, Or.inl ⟨by omega, rfl, rfl⟩⟩⟩
                    | exact Or.inr ⟨hin, Or.inr ⟨hpe, Or.inr (Or.inl ⟨by omega, by omega, rfl, rfl⟩)⟩⟩
                    | exact Or.inr ⟨hin, Or.inr ⟨hpe, Or.inr (Or.inr ⟨by omega, by omega, rfl, rfl⟩)⟩⟩
              · refine g_aload_n dX7_show_95 rfl ?_
                refine g_bipush dX7_show_96 (by decide) ?_
                refine g_callvI dX7_show_98 tm_7_133 rfl ⟨rfl, rfl⟩ rfl (Nat.le_of_ble_eq_true rfl) (cm_refuse (by omega) σ hf _ ⟨by omega, by omega⟩ hg.2.2) (fun z98 s98 h98 => ?_)
                obtain ⟨rfl, rfl⟩ := h98
                refine g_ireturn dX7_show_101 (Or.inl rfl) ⟨_, rfl, ?_⟩
                first
                  | exact Or.inl ⟨by omega, rfl, rfl⟩
                  | exact Or.inr ⟨hin, Or.inl ⟨fun hpe => by rcases h45 with ⟨a, b⟩ | ⟨a, b⟩; (first | exact absurd (a.symm.trans c48) (by decide) | (clear hf hb; omega)); (first | exact b hpe.1 | exact absurd a c48), rfl, rfl⟩⟩
                  | exact Or.inr ⟨hin, Or.inr ⟨hpe, Or.inl ⟨by omega, rfl, rfl⟩⟩⟩
                  | exact Or.inr ⟨hin, Or.inr ⟨hpe, Or.inr (Or.inl ⟨by omega, by omega, rfl, rfl⟩)⟩⟩
                  | exact Or.inr ⟨hin, Or.inr ⟨hpe, Or.inr (Or.inr ⟨by omega, by omega, rfl, rfl⟩)⟩⟩
            · refine g_aload_n dX7_show_83 rfl ?_
              refine g_bipush dX7_show_84 (by decide) ?_
              refine g_callvI dX7_show_86 tm_7_133 rfl ⟨rfl, rfl⟩ rfl (Nat.le_of_ble_eq_true rfl) (cm_refuse (by omega) σ hf _ ⟨by omega, by omega⟩ hg.2.2) (fun z86 s86 h86 => ?_)
              obtain ⟨rfl, rfl⟩ := h86
              refine g_ireturn dX7_show_89 (Or.inl rfl) ⟨_, rfl, ?_⟩
              first
                | exact Or.inl ⟨by omega, rfl, rfl⟩
                | exact Or.inr ⟨hin, Or.inl ⟨fun hpe => by rcases h45 with ⟨a, b⟩ | ⟨a, b⟩; (first | exact absurd (a.symm.trans c48) (by decide) | (clear hf hb; omega)); (first | exact b hpe.1 | exact absurd a c48), rfl, rfl⟩⟩
                | exact Or.inr ⟨hin, Or.inr ⟨hpe, Or.inl ⟨by omega, rfl, rfl⟩⟩⟩
                | exact Or.inr ⟨hin, Or.inr ⟨hpe, Or.inr (Or.inl ⟨by omega, by omega, rfl, rfl⟩)⟩⟩
                | exact Or.inr ⟨hin, Or.inr ⟨hpe, Or.inr (Or.inr ⟨by omega, by omega, rfl, rfl⟩)⟩⟩
          · refine g_aload_n dX7_show_62 rfl ?_
            refine g_iload_n dX7_show_63 rfl ?_
            refine g_iload_n dX7_show_64 rfl ?_
            refine g_iconst dX7_show_65 ⟨by decide, by decide⟩ ?_
            refine g_callvI dX7_show_66 tm_7_385 rfl ⟨rfl, rfl⟩ rfl (Nat.le_of_ble_eq_true rfl) (cm_peerOf (by omega) σ hf hb P hP (by omega) p w (by clear h45; omega) hw 1) (fun z66 s66 h66 => ?_)
            obtain ⟨rfl, e66⟩ := h66
            obtain rfl := e66.symm
            refine g_iload_n dX7_show_69 rfl ?_
            refine g_icmp_ne (tgt := 83) dX7_show_70 (by decide) (fun c70 => ?_) (fun c70 => ?_)
            · refine g_aload_n dX7_show_83 rfl ?_
              refine g_bipush dX7_show_84 (by decide) ?_
              refine g_callvI dX7_show_86 tm_7_133 rfl ⟨rfl, rfl⟩ rfl (Nat.le_of_ble_eq_true rfl) (cm_refuse (by omega) σ hf _ ⟨by omega, by omega⟩ hg.2.2) (fun z86 s86 h86 => ?_)
              obtain ⟨rfl, rfl⟩ := h86
              refine g_ireturn dX7_show_89 (Or.inl rfl) ⟨_, rfl, ?_⟩
              first
                | exact Or.inl ⟨by omega, rfl, rfl⟩
                | exact Or.inr ⟨hin, Or.inl ⟨fun hpe => by rcases h45 with ⟨a, b⟩ | ⟨a, b⟩; (first | exact absurd (a.symm.trans c48) (by decide) | (clear hf hb; omega)); (first | exact b hpe.1 | exact absurd a c48), rfl, rfl⟩⟩
                | exact Or.inr ⟨hin, Or.inr ⟨hpe, Or.inl ⟨by omega, rfl, rfl⟩⟩⟩
                | exact Or.inr ⟨hin, Or.inr ⟨hpe, Or.inr (Or.inl ⟨by omega, by omega, rfl, rfl⟩)⟩⟩
                | exact Or.inr ⟨hin, Or.inr ⟨hpe, Or.inr (Or.inr ⟨by omega, by omega, rfl, rfl⟩)⟩⟩
            · refine g_aload_n dX7_show_73 rfl ?_
              refine g_getA dX7_show_74 tf_7_49 rfl rfl (mrf hf rfl) ?_
              refine g_iload dX7_show_77 rfl ?_
              refine g_ialdN (6 * (10 * p + w) + b) dX7_show_79 rfl (by omega) (by omega) ?_
              refine g_if_lt (tgt := 90) dX7_show_80 (by decide) (fun c80 => ?_) (fun c80 => ?_)
              · have hpe : ((hI σ 3 w = 3 ∧ 0 < hI σ 10 (10 * p + w)) ∧ (peS (mnM σ w) P p 0 = (b : Int) ∨ peS (mnM σ w) P p 1 = (b : Int)) ∧ hI σ 14 (6 * (10 * p + w) + b) < 0) := ⟨by rcases h45 with ⟨a, b⟩ | ⟨a, b⟩; exact b; exact absurd a c48, by omega, by clear h45; omega⟩
                clear h45
                refine g_iload dX7_show_90 rfl ?_
                refine g_if_ge (tgt := 102) dX7_show_92 (by decide) (fun c92 => ?_) (fun c92 => ?_)
                · refine g_iload dX7_show_102 rfl ?_
                  refine g_aload_n dX7_show_104 rfl ?_
                  refine g_getA dX7_show_105 tf_7_19 rfl rfl (mrf hf rfl) ?_
                  refine g_iload_n dX7_show_108 rfl ?_
                  refine g_ialdN (w) dX7_show_109 rfl (by omega) (by omega) ?_
                  refine g_icmp_le (tgt := 120) dX7_show_110 (by decide) (fun c110 => ?_) (fun c110 => ?_)
                  · refine g_aload_n dX7_show_120 rfl ?_
                    refine g_getA dX7_show_121 tf_7_49 rfl rfl (mrf hf rfl) ?_
                    refine g_iload dX7_show_124 rfl ?_
                    refine g_iload dX7_show_126 rfl ?_
                    refine g_iastN (6 * (10 * p + w) + b) dX7_show_128 rfl (by omega) (by omega) ?_
                    refine g_aload_n dX7_show_129 rfl ?_
                    refine g_dup dX7_show_130 rfl ?_
                    refine g_getI dX7_show_131 tf_7_379 rfl rfl ?_
                    rw [hI_uI_n (by omega)]
                    refine g_iconst dX7_show_134 ⟨by decide, by decide⟩ ?_
                    refine g_iadd dX7_show_135 rfl ⟨by omega, by omega⟩ ?_
                    refine g_putI dX7_show_136 tf_7_379 rfl rfl rfl ?_
                    refine g_aload_n dX7_show_139 rfl ?_
                    refine g_iload_n dX7_show_140 rfl ?_
                    refine g_iload_n dX7_show_141 rfl ?_
                    refine g_callvI dX7_show_142 tm_7_311 rfl ⟨rfl, rfl⟩ rfl (Nat.le_of_ble_eq_true rfl) (cm_peerMarks (by omega) (uI (uI σ 14 (6 * (10 * p + w) + b) v) 0 5 (hI σ 0 5 + 1)) hf ((hb.u ⟨by show (-1 : Int) ≤ v; omega, by show v ≤ (20 : Int); omega⟩).u ⟨by show (-2147483648 : Int) ≤ _; omega, by show _ ≤ (2147483647 : Int); omega⟩) p w hp hw) (fun z142 s142 h142 => ?_)
                    obtain ⟨rfl, e142⟩ := h142
                    obtain rfl := e142.symm
                    refine g_ireturn dX7_show_145 (Or.inl rfl) ⟨_, rfl, ?_⟩
                    first
                      | exact Or.inl ⟨by omega, rfl, rfl⟩
                      | exact Or.inr ⟨hin, Or.inl ⟨fun hpe => by rcases h45 with ⟨a, b⟩ | ⟨a, b⟩; (first | exact absurd (a.symm.trans c48) (by decide) | (clear hf hb; omega)); (first | exact b hpe.1 | exact absurd a c48), rfl, rfl⟩⟩
                      | exact Or.inr ⟨hin, Or.inr ⟨hpe, Or.inl ⟨by omega, rfl, rfl⟩⟩⟩
                      | exact Or.inr ⟨hin, Or.inr ⟨hpe, Or.inr (Or.inl ⟨by omega, by omega, rfl, rfl⟩)⟩⟩
                      | exact Or.inr ⟨hin, Or.inr ⟨hpe, Or.inr (Or.inr ⟨by omega, by omega, rfl, rfl⟩)⟩⟩
                  · refine g_aload_n dX7_show_113 rfl ?_
                    refine g_bipush dX7_show_114 (by decide) ?_
                    refine g_callvI dX7_show_116 tm_7_133 rfl ⟨rfl, rfl⟩ rfl (Nat.le_of_ble_eq_true rfl) (cm_refuse (by omega) σ hf _ ⟨by omega, by omega⟩ hg.2.2) (fun z116 s116 h116 => ?_)
                    obtain ⟨rfl, rfl⟩ := h116
                    refine g_ireturn dX7_show_119 (Or.inl rfl) ⟨_, rfl, ?_⟩
                    first
                      | exact Or.inl ⟨by omega, rfl, rfl⟩
                      | exact Or.inr ⟨hin, Or.inl ⟨fun hpe => by rcases h45 with ⟨a, b⟩ | ⟨a, b⟩; (first | exact absurd (a.symm.trans c48) (by decide) | (clear hf hb; omega)); (first | exact b hpe.1 | exact absurd a c48), rfl, rfl⟩⟩
                      | exact Or.inr ⟨hin, Or.inr ⟨hpe, Or.inl ⟨by omega, rfl, rfl⟩⟩⟩
                      | exact Or.inr ⟨hin, Or.inr ⟨hpe, Or.inr (Or.inl ⟨by omega, by omega, rfl, rfl⟩)⟩⟩
                      | exact Or.inr ⟨hin, Or.inr ⟨hpe, Or.inr (Or.inr ⟨by omega, by omega, rfl, rfl⟩)⟩⟩
                · refine g_aload_n dX7_show_95 rfl ?_
                  refine g_bipush dX7_show_96 (by decide) ?_
                  refine g_callvI dX7_show_98 tm_7_133 rfl ⟨rfl, rfl⟩ rfl (Nat.le_of_ble_eq_true rfl) (cm_refuse (by omega) σ hf _ ⟨by omega, by omega⟩ hg.2.2) (fun z98 s98 h98 => ?_)
                  obtain ⟨rfl, rfl⟩ := h98
                  refine g_ireturn dX7_show_101 (Or.inl rfl) ⟨_, rfl, ?_⟩
                  first
                    | exact Or.inl ⟨by omega, rfl, rfl⟩
                    | exact Or.inr ⟨hin, Or.inl ⟨fun hpe => by rcases h45 with ⟨a, b⟩ | ⟨a, b⟩; (first | exact absurd (a.symm.trans c48) (by decide) | (clear hf hb; omega)); (first | exact b hpe.1 | exact absurd a c48), rfl, rfl⟩⟩
                    | exact Or.inr ⟨hin, Or.inr ⟨hpe, Or.inl ⟨by omega, rfl, rfl⟩⟩⟩
                    | exact Or.inr ⟨hin, Or.inr ⟨hpe, Or.inr (Or.inl ⟨by omega, by omega, rfl, rfl⟩)⟩⟩
                    | exact Or.inr ⟨hin, Or.inr ⟨hpe, Or.inr (Or.inr ⟨by omega, by omega, rfl, rfl⟩)⟩⟩
              · refine g_aload_n dX7_show_83 rfl ?_
                refine g_bipush dX7_show_84 (by decide) ?_
                refine g_callvI dX7_show_86 tm_7_133 rfl ⟨rfl, rfl⟩ rfl (Nat.le_of_ble_eq_true rfl) (cm_refuse (by omega) σ hf _ ⟨by omega, by omega⟩ hg.2.2) (fun z86 s86 h86 => ?_)
                obtain ⟨rfl, rfl⟩ := h86
                refine g_ireturn dX7_show_89 (Or.inl rfl) ⟨_, rfl, ?_⟩
                first
                  | exact Or.inl ⟨by omega, rfl, rfl⟩
                  | exact Or.inr ⟨hin, Or.inl ⟨fun hpe => by rcases h45 with ⟨a, b⟩ | ⟨a, b⟩; (first | exact absurd (a.symm.trans c48) (by decide) | (clear hf hb; omega)); (first | exact b hpe.1 | exact absurd a c48), rfl, rfl⟩⟩
                  | exact Or.inr ⟨hin, Or.inr ⟨hpe, Or.inl ⟨by omega, rfl, rfl⟩⟩⟩
                  | exact Or.inr ⟨hin, Or.inr ⟨hpe, Or.inr (Or.inl ⟨by omega, by omega, rfl, rfl⟩)⟩⟩
                  | exact Or.inr ⟨hin, Or.inr ⟨hpe, Or.inr (Or.inr ⟨by omega, by omega, rfl, rfl⟩)⟩⟩
      · refine g_aload_n dX7_show_24 rfl ?_
        refine g_iconst dX7_show_25 ⟨by decide, by decide⟩ ?_
        refine g_callvI dX7_show_26 tm_7_133 rfl ⟨rfl, rfl⟩ rfl (Nat.le_of_ble_eq_true rfl) (cm_refuse (by omega) σ hf _ ⟨by omega, by omega⟩ hg.2.2) (fun z26 s26 h26 => ?_)
        obtain ⟨rfl, rfl⟩ := h26
        refine g_ireturn dX7_show_29 (Or.inl rfl) ⟨_, rfl, ?_⟩
        first
          | exact Or.inl ⟨by omega, rfl, rfl⟩
          | exact Or.inr ⟨hin, Or.inl ⟨fun hpe => by rcases h45 with ⟨a, b⟩ | ⟨a, b⟩; (first | exact absurd (a.symm.trans c48) (by decide) | (clear hf hb; omega)); (first | exact b hpe.1 | exact absurd a c48), rfl, rfl⟩⟩
          | exact Or.inr ⟨hin, Or.inr ⟨hpe, Or.inl ⟨by omega, rfl, rfl⟩⟩⟩
          | exact Or.inr ⟨hin, Or.inr ⟨hpe, Or.inr (Or.inl ⟨by omega, by omega, rfl, rfl⟩)⟩⟩
          | exact Or.inr ⟨hin, Or.inr ⟨hpe, Or.inr (Or.inr ⟨by omega, by omega, rfl, rfl⟩)⟩⟩

