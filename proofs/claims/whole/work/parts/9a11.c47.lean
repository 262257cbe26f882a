/-! VALUES: the least and the greatest of a set -/
def leQ (a b : Int × Int) : Prop := a.1 * b.2 ≤ b.1 * a.2
theorem leQ_rf (a : Int × Int) : leQ a a := Int.le_refl _
theorem leQ_tr {a b c : Int × Int} (ha : 0 < a.2) (hb : 0 < b.2) (hc : 0 < c.2) (h1 : leQ a b) (h2 : leQ b c) : leQ a c := by
  unfold leQ at *
  have h3 : a.1 * b.2 * c.2 ≤ b.1 * a.2 * c.2 := Int.mul_le_mul_of_nonneg_right h1 (Int.le_of_lt hc)
  have h4 : b.1 * c.2 * a.2 ≤ c.1 * b.2 * a.2 := Int.mul_le_mul_of_nonneg_right h2 (Int.le_of_lt ha)
  have e1 : b.1 * a.2 * c.2 = b.1 * c.2 * a.2 := by rw [Int.mul_assoc, Int.mul_comm a.2 c.2, ← Int.mul_assoc]
  have e2 : a.1 * b.2 * c.2 = a.1 * c.2 * b.2 := by rw [Int.mul_assoc, Int.mul_comm b.2 c.2, ← Int.mul_assoc]
  have e3 : c.1 * b.2 * a.2 = c.1 * a.2 * b.2 := by rw [Int.mul_assoc, Int.mul_comm b.2 a.2, ← Int.mul_assoc]
  have h5 : a.1 * c.2 * b.2 ≤ c.1 * a.2 * b.2 := by omega
  exact Int.le_of_mul_le_mul_right h5 hb
theorem leQ_eq {a b : Int × Int} (ha : vok (some (some a))) (hb : vok (some (some b))) (h1 : leQ a b) (h2 : leQ b a) : a = b := by
  obtain ⟨-, -, a3, -, a5⟩ := ha
  obtain ⟨-, -, b3, -, b5⟩ := hb
  have a3 : 1 ≤ a.2 := a3
  have b3 : 1 ≤ b.2 := b3
  have a5 : Int.gcd a.1 a.2 = 1 := a5
  have b5 : Int.gcd b.1 b.2 = 1 := b5
  have he : a.1 * b.2 = b.1 * a.2 := Int.le_antisymm h1 h2
  have hn : a.1.natAbs * b.2.natAbs = b.1.natAbs * a.2.natAbs := by
    have := congrArg Int.natAbs he
    rw [Int.natAbs_mul, Int.natAbs_mul] at this
    exact this
  have ca : Nat.Coprime a.2.natAbs a.1.natAbs := by
    unfold Nat.Coprime
    rw [Nat.gcd_comm]
    exact a5
  have cb : Nat.Coprime b.2.natAbs b.1.natAbs := by
    unfold Nat.Coprime
    rw [Nat.gcd_comm]
    exact b5
  have d1 : a.2.natAbs ∣ b.2.natAbs := ca.dvd_of_dvd_mul_left (by rw [hn]; exact Nat.dvd_mul_left _ _)
  have d2 : b.2.natAbs ∣ a.2.natAbs := cb.dvd_of_dvd_mul_left (by rw [← hn]; exact Nat.dvd_mul_left _ _)
  have e2 : a.2.natAbs = b.2.natAbs := Nat.dvd_antisymm d1 d2
  have e22 : a.2 = b.2 := by omega
  have e11 : a.1 = b.1 := by
    rw [e22] at he
    exact Int.eq_of_mul_eq_mul_right (by omega) he
  exact Prod.ext e11 e22
def AccP (a : Acc) (S : Vl → Prop) : Prop := match a with
  | none => ∀ q, ¬ S (some (some q))
  | some b => S (some (some b.1)) ∧ S (some (some b.2)) ∧ ∀ q, S (some (some q)) → leQ b.1 q ∧ leQ q b.2
theorem AccP_S {a : Acc} {S : Vl → Prop} {v : Vl} (h : AccP a S) (hv : vok v) (hS : ∀ x, S x → vok x) : AccP (accS a v) (fun x => S x ∨ x = v) := by
  have hnn : (∀ q, v ≠ some (some q)) → accS a v = a → AccP (accS a v) (fun x => S x ∨ x = v) := fun hq ha => by
    rw [ha]
    rcases a with _ | b
    · exact fun q hh => hh.elim (h q) (fun e => hq q e.symm)
    · exact ⟨Or.inl h.1, Or.inl h.2.1, fun q hh => hh.elim (h.2.2 q) (fun e => absurd e.symm (hq q))⟩
  rcases v with _ | _ | q
  · exact hnn (fun q e => by cases e) rfl
  · exact hnn (fun q e => by cases e) rfl
  · rcases a with _ | b
    · refine ⟨Or.inr rfl, Or.inr rfl, fun q' hh => ?_⟩
      rcases hh with hh | hh
      · exact absurd hh (h q')
      · have e : q' = q := by injection hh with hh; injection hh
        subst e
        exact ⟨leQ_rf _, leQ_rf _⟩
    · obtain ⟨h1, h2, h3⟩ := h
      have p1 : 0 < b.1.2 := (hS _ h1).2.2.1
      have p2 : 0 < b.2.2 := (hS _ h2).2.2.1
      have pq : 0 < q.2 := hv.2.2.1
      have key : ∀ q', (S (some (some q')) ∨ some (some q') = (some (some q) : Vl)) → leQ (if q.1 * b.1.2 < b.1.1 * q.2 then q else b.1) q' ∧ leQ q' (if b.2.1 * q.2 < q.1 * b.2.2 then q else b.2) := fun q' hh => by
        rcases hh with hh | hh
        · have p' : 0 < q'.2 := (hS _ hh).2.2.1
          obtain ⟨l1, l2⟩ := h3 q' hh
          constructor
          · split
            · rename_i hlt
              exact leQ_tr pq p1 p' (Int.le_of_lt hlt) l1
            · exact l1
          · split
            · rename_i hlt
              exact leQ_tr p' p2 pq l2 (Int.le_of_lt hlt)
            · exact l2
        · have e : q' = q := by injection hh with hh; injection hh
          subst e
          constructor
          · split
            · exact leQ_rf _
            · rename_i hlt
              exact Int.not_lt.mp hlt
          · split
            · exact leQ_rf _
            · rename_i hlt
              exact Int.not_lt.mp hlt
      refine ⟨?_, ?_, key⟩
      · show S (some (some (if q.1 * b.1.2 < b.1.1 * q.2 then q else b.1))) ∨ some (some (if q.1 * b.1.2 < b.1.1 * q.2 then q else b.1)) = (some (some q) : Vl)
        split
        · exact Or.inr rfl
        · exact Or.inl h1
      · show S (some (some (if b.2.1 * q.2 < q.1 * b.2.2 then q else b.2))) ∨ some (some (if b.2.1 * q.2 < q.1 * b.2.2 then q else b.2)) = (some (some q) : Vl)
        split
        · exact Or.inr rfl
        · exact Or.inl h2
theorem AccP_uni {a b : Acc} {S : Vl → Prop} (ha : AccP a S) (hb : AccP b S) (hS : ∀ x, S x → vok x) : a = b := by
  rcases a with _ | a
  · rcases b with _ | b
    · rfl
    · exact absurd hb.1 (ha _)
  · rcases b with _ | b
    · exact absurd ha.1 (hb _)
    · have e1 : a.1 = b.1 := leQ_eq (hS _ ha.1) (hS _ hb.1) (ha.2.2 _ hb.1).1 (hb.2.2 _ ha.1).1
      have e2 : a.2 = b.2 := leQ_eq (hS _ ha.2.1) (hS _ hb.2.1) (hb.2.2 _ ha.2.1).2 (ha.2.2 _ hb.2.1).2
      rw [show a = b from Prod.ext e1 e2]
theorem AccP_congr {a : Acc} {S T : Vl → Prop} (h : AccP a S) (hST : ∀ x, S x ↔ T x) : AccP a T := by
  have e : S = T := funext fun x => propext (hST x)
  rw [← e]
  exact h
/-! THE CLASS: the range so far -/
def AcC (a : Acc) (s : am_HS) : Prop := match a with
  | none => hL s 5 7 = 0 ∧ hL s 5 8 = 0
  | some b => (vok (some (some b.1)) ∧ hL s 5 7 = encV (some (some b.1))) ∧ (vok (some (some b.2)) ∧ hL s 5 8 = encV (some (some b.2)))
def Fr78 (σ s : am_HS) : Prop := s.1 = σ.1 ∧ s.2.2 = σ.2.2 ∧ ∀ o j, ¬ (o = 5 ∧ (j = 7 ∨ j = 8)) → hL s o j = hL σ o j
theorem Fr78.rf (σ : am_HS) : Fr78 σ σ := ⟨rfl, rfl, fun _ _ _ => rfl⟩
theorem Fr78.u {σ s : am_HS} (h : Fr78 σ s) {j : Nat} {x : Int} (hj : j = 7 ∨ j = 8) : Fr78 σ (uL s 5 j x) := ⟨h.1, h.2.1, fun o k q => (hL_uL_n (fun z => q ⟨z.1, by omega⟩)).trans (h.2.2 o k q)⟩
theorem Fr78.fr {σ s : am_HS} (h : Fr78 σ s) : FrR σ s := ⟨h.2.1, fun o j _ => by unfold hI; rw [h.1]⟩
theorem Fr78.hI {σ s : am_HS} (h : Fr78 σ s) (o j : Nat) : hI s o j = hI σ o j := by unfold _root_.Jvm.Pilot.@@N@@.hI; rw [h.1]
theorem cc2_widenO {D : Nat} (hD : 3 ≤ D) (σ : am_HS) (x : Int) {v : Vl} (hv : vok v) (hx : x = encV v) (hno : tgV v ≠ 1) : am_Do lc D mX2_widen σ [vR (some 5), vL x] (qV fun s => s = σ) := by
  have hn0 : ∀ q : Int × Int, vok (some (some q)) → encV (some (some q)) % 4294967296 ≠ 0 := fun q hq => by
    rw [(enc_lo hq).1]
    have h1 : 1 ≤ q.2 := hq.2.2.1
    show q.2 ≠ 0
    omega
  have hrx : rL x := by rw [hx]; exact encV_r hv
  have T := (tag_n hv hx).1
  obtain ⟨d, rfl⟩ : ∃ d, D = d + 1 := ⟨D - 1, by omega⟩
  refine am_enter rfl rfl (Nat.le_of_ble_eq_true rfl) ?_
  refine g_lload_n dX2_widen_0 rfl ?_
  refine g_callsI dX2_widen_1 tm_2_131 rfl ⟨Nat.le_of_ble_eq_true rfl, rfl, rfl⟩ (Nat.le_of_ble_eq_true rfl) (cc4_isNumber (by omega) σ _ hrx) (fun z1 s1 h1 => ?_)
  obtain ⟨h1, e1⟩ := h1
  obtain rfl := e1.symm
  refine g_if_ne (tgt := 8) dX2_widen_4 (by decide) (fun c4 => ?_) (fun c4 => ?_)
  · exact absurd (T (by omega)) hno
  · refine g_return dX2_widen_7 rfl ⟨rfl, ?_⟩
    rfl

theorem cc2_widen1 {D : Nat} (hD : 3 ≤ D) (σ : am_HS) (x : Int) {v : Vl} (hv : vok v) (hx : x = encV v) {q : Int × Int} (hq : v = some (some q)) (h7 : hL σ 5 7 = 0) (h8 : hL σ 5 8 = 0) : am_Do lc D mX2_widen σ [vR (some 5), vL x] (qV fun s => s = uL (uL σ 5 7 x) 5 8 x) := by
  have hn0 : ∀ q : Int × Int, vok (some (some q)) → encV (some (some q)) % 4294967296 ≠ 0 := fun q hq => by
    rw [(enc_lo hq).1]
    have h1 : 1 ≤ q.2 := hq.2.2.1
    show q.2 ≠ 0
    omega
  have hrx : rL x := by rw [hx]; exact encV_r hv
  subst hq
  have h0 := hn0 q hv
  obtain ⟨d, rfl⟩ : ∃ d, D = d + 1 := ⟨D - 1, by omega⟩
  refine am_enter rfl rfl (Nat.le_of_ble_eq_true rfl) ?_
  refine g_lload_n dX2_widen_0 rfl ?_
  refine g_callsI dX2_widen_1 tm_2_131 rfl ⟨Nat.le_of_ble_eq_true rfl, rfl, rfl⟩ (Nat.le_of_ble_eq_true rfl) (cc4_isNumber (by omega) σ _ hrx) (fun z1 s1 h1 => ?_)
  obtain ⟨h1, e1⟩ := h1
  obtain rfl := e1.symm
  refine g_if_ne (tgt := 8) dX2_widen_4 (by decide) (fun c4 => ?_) (fun c4 => ?_)
  · refine g_aload_n dX2_widen_8 rfl ?_
    refine g_getL dX2_widen_9 tf_2_135 rfl rfl ?_
    refine g_callsI dX2_widen_12 tm_2_131 rfl ⟨Nat.le_of_ble_eq_true rfl, rfl, rfl⟩ (Nat.le_of_ble_eq_true rfl) (cc4_isNumber (by omega) σ _ (by rw [h7]; exact ⟨by decide, by decide⟩)) (fun z12 s12 h12 => ?_)
    obtain ⟨h12, e12⟩ := h12
    obtain rfl := e12.symm
    rw [h7] at h12
    refine g_if_eq (tgt := 29) dX2_widen_15 (by decide) (fun c15 => ?_) (fun c15 => ?_)
    · refine g_aload_n dX2_widen_29 rfl ?_
      refine g_lload_n dX2_widen_30 rfl ?_
      refine g_putL dX2_widen_31 tf_2_135 rfl rfl rfl ?_
      refine g_aload_n dX2_widen_34 rfl ?_
      refine g_getL dX2_widen_35 tf_2_139 rfl rfl ?_
      refine g_callsI dX2_widen_38 tm_2_131 rfl ⟨Nat.le_of_ble_eq_true rfl, rfl, rfl⟩ (Nat.le_of_ble_eq_true rfl) (cc4_isNumber (by omega) _ _ (by rw [hL_uL_n (by omega), h8]; exact ⟨by decide, by decide⟩)) (fun z38 s38 h38 => ?_)
      obtain ⟨h38, e38⟩ := h38
      obtain rfl := e38.symm
      rw [hL_uL_n (by omega), h8] at h38
      refine g_if_eq (tgt := 55) dX2_widen_41 (by decide) (fun c41 => ?_) (fun c41 => ?_)
      · refine g_aload_n dX2_widen_55 rfl ?_
        refine g_lload_n dX2_widen_56 rfl ?_
        refine g_putL dX2_widen_57 tf_2_139 rfl rfl rfl ?_
        refine g_return dX2_widen_60 rfl ⟨rfl, ?_⟩
        rfl
      · exfalso; omega
    · exfalso; omega
  · exfalso; rw [hx] at h1; omega

theorem cc2_widen2 {D : Nat} (hD : 3 ≤ D) (σ : am_HS) (x : Int) {v : Vl} (hv : vok v) (hx : x = encV v) {q : Int × Int} (hq : v = some (some q)) {b : (Int × Int) × (Int × Int)} (hb1 : vok (some (some b.1))) (hb2 : vok (some (some b.2))) (h7 : hL σ 5 7 = encV (some (some b.1))) (h8 : hL σ 5 8 = encV (some (some b.2))) : am_Do lc D mX2_widen σ [vR (some 5), vL x] (qV fun s => Fr78 σ s ∧ hL s 5 7 = encV (some (some (if q.1 * b.1.2 < b.1.1 * q.2 then q else b.1))) ∧ hL s 5 8 = encV (some (some (if b.2.1 * q.2 < q.1 * b.2.2 then q else b.2)))) := by
  have hn0 : ∀ q : Int × Int, vok (some (some q)) → encV (some (some q)) % 4294967296 ≠ 0 := fun q hq => by
    rw [(enc_lo hq).1]
    have h1 : 1 ≤ q.2 := hq.2.2.1
    show q.2 ≠ 0
    omega
  have hrx : rL x := by rw [hx]; exact encV_r hv
  subst hq
  have h0 := hn0 q hv
  have hz1 := hn0 _ hb1
  have hz2 := hn0 _ hb2
  have hr1 := encV_r hb1
  have hr2 := encV_r hb2
  have hrq := encV_r hv
  obtain ⟨d, rfl⟩ : ∃ d, D = d + 1 := ⟨D - 1, by omega⟩
  refine am_enter rfl rfl (Nat.le_of_ble_eq_true rfl) ?_
  refine g_lload_n dX2_widen_0 rfl ?_
  refine g_callsI dX2_widen_1 tm_2_131 rfl ⟨Nat.le_of_ble_eq_true rfl, rfl, rfl⟩ (Nat.le_of_ble_eq_true rfl) (cc4_isNumber (by omega) σ _ hrx) (fun z1 s1 h1 => ?_)
  obtain ⟨h1, e1⟩ := h1
  obtain rfl := e1.symm
  refine g_if_ne (tgt := 8) dX2_widen_4 (by decide) (fun c4 => ?_) (fun c4 => ?_)
  · refine g_aload_n dX2_widen_8 rfl ?_
    refine g_getL dX2_widen_9 tf_2_135 rfl rfl ?_
    refine g_callsI dX2_widen_12 tm_2_131 rfl ⟨Nat.le_of_ble_eq_true rfl, rfl, rfl⟩ (Nat.le_of_ble_eq_true rfl) (cc4_isNumber (by omega) σ _ (by rw [h7]; exact hr1)) (fun z12 s12 h12 => ?_)
    obtain ⟨h12, e12⟩ := h12
    obtain rfl := e12.symm
    rw [h7] at h12
    refine g_if_eq (tgt := 29) dX2_widen_15 (by decide) (fun c15 => ?_) (fun c15 => ?_)
    · exfalso; omega
    · refine g_lload_n dX2_widen_18 rfl ?_
      refine g_aload_n dX2_widen_19 rfl ?_
      refine g_getL dX2_widen_20 tf_2_135 rfl rfl ?_
      refine g_callsI dX2_widen_23 tm_2_124 rfl ⟨Nat.le_of_ble_eq_true rfl, rfl, rfl⟩ (Nat.le_of_ble_eq_true rfl) (cc4_isLess (by omega) σ _ _ hv hb1 hx h7) (fun z23 s23 h23 => ?_)
      obtain ⟨h23, e23⟩ := h23
      obtain rfl := e23.symm
      have hL1 : ltV (some (some q)) (some (some b.1)) ↔ q.1 * b.1.2 < b.1.1 * q.2 := Iff.rfl
      refine g_if_eq (tgt := 34) dX2_widen_26 (by decide) (fun c26 => ?_) (fun c26 => ?_)
      · refine g_aload_n dX2_widen_34 rfl ?_
        refine g_getL dX2_widen_35 tf_2_139 rfl rfl ?_
        refine g_callsI dX2_widen_38 tm_2_131 rfl ⟨Nat.le_of_ble_eq_true rfl, rfl, rfl⟩ (Nat.le_of_ble_eq_true rfl) (cc4_isNumber (by omega) σ _ (by rw [h8]; exact hr2)) (fun z38 s38 h38 => ?_)
        obtain ⟨h38, e38⟩ := h38
        obtain rfl := e38.symm
        rw [h8] at h38
        refine g_if_eq (tgt := 55) dX2_widen_41 (by decide) (fun c41 => ?_) (fun c41 => ?_)
        · exfalso; omega
        · refine g_aload_n dX2_widen_44 rfl ?_
          refine g_getL dX2_widen_45 tf_2_139 rfl rfl ?_
          refine g_lload_n dX2_widen_48 rfl ?_
          refine g_callsI dX2_widen_49 tm_2_124 rfl ⟨Nat.le_of_ble_eq_true rfl, rfl, rfl⟩ (Nat.le_of_ble_eq_true rfl) (cc4_isLess (by omega) σ _ _ hb2 hv h8 hx) (fun z49 s49 h49 => ?_)
          obtain ⟨h49, e49⟩ := h49
          obtain rfl := e49.symm
          have hL2 : ltV (some (some b.2)) (some (some q)) ↔ b.2.1 * q.2 < q.1 * b.2.2 := Iff.rfl
          refine g_if_eq (tgt := 60) dX2_widen_52 (by decide) (fun c52 => ?_) (fun c52 => ?_)
          · refine g_return dX2_widen_60 rfl ⟨rfl, ?_⟩
            refine ⟨Fr78.rf σ, ?_, ?_⟩
            · rw [if_neg (show ¬ (q.1 * b.1.2 < b.1.1 * q.2) from h23.elim (fun z => by omega) (fun z => z.2))]
              exact h7
            · rw [if_neg (show ¬ (b.2.1 * q.2 < q.1 * b.2.2) from h49.elim (fun z => by omega) (fun z => z.2))]
              exact h8
          · refine g_aload_n dX2_widen_55 rfl ?_
            refine g_lload_n dX2_widen_56 rfl ?_
            refine g_putL dX2_widen_57 tf_2_139 rfl rfl rfl ?_
            refine g_return dX2_widen_60 rfl ⟨rfl, ?_⟩
            refine ⟨(Fr78.rf σ).u (Or.inr rfl), ?_, ?_⟩
            · rw [if_neg (show ¬ (q.1 * b.1.2 < b.1.1 * q.2) from h23.elim (fun z => by omega) (fun z => z.2)), hL_uL_n (by omega)]
              exact h7
            · rw [if_pos (show (b.2.1 * q.2 < q.1 * b.2.2) from h49.elim (fun z => z.2) (fun z => by omega))]
              rw [hL_uL_e hrx, hx]
      · refine g_aload_n dX2_widen_29 rfl ?_
        refine g_lload_n dX2_widen_30 rfl ?_
        refine g_putL dX2_widen_31 tf_2_135 rfl rfl rfl ?_
        refine g_aload_n dX2_widen_34 rfl ?_
        refine g_getL dX2_widen_35 tf_2_139 rfl rfl ?_
        refine g_callsI dX2_widen_38 tm_2_131 rfl ⟨Nat.le_of_ble_eq_true rfl, rfl, rfl⟩ (Nat.le_of_ble_eq_true rfl) (cc4_isNumber (by omega) (uL σ 5 7 x) _ (by rw [hL_uL_n (by omega), h8]; exact hr2)) (fun z38 s38 h38 => ?_)
        obtain ⟨h38, e38⟩ := h38
        obtain rfl := e38.symm
        rw [hL_uL_n (by omega), h8] at h38
        refine g_if_eq (tgt := 55) dX2_widen_41 (by decide) (fun c41 => ?_) (fun c41 => ?_)
        · exfalso; omega
        · refine g_aload_n dX2_widen_44 rfl ?_
          refine g_getL dX2_widen_45 tf_2_139 rfl rfl ?_
          refine g_lload_n dX2_widen_48 rfl ?_
          refine g_callsI dX2_widen_49 tm_2_124 rfl ⟨Nat.le_of_ble_eq_true rfl, rfl, rfl⟩ (Nat.le_of_ble_eq_true rfl) (cc4_isLess (by omega) (uL σ 5 7 x) _ _ hb2 hv ((hL_uL_n (by omega)).trans h8) hx) (fun z49 s49 h49 => ?_)
          obtain ⟨h49, e49⟩ := h49
          obtain rfl := e49.symm
          have hL2 : ltV (some (some b.2)) (some (some q)) ↔ b.2.1 * q.2 < q.1 * b.2.2 := Iff.rfl
          refine g_if_eq (tgt := 60) dX2_widen_52 (by decide) (fun c52 => ?_) (fun c52 => ?_)
          · refine g_return dX2_widen_60 rfl ⟨rfl, ?_⟩
            refine ⟨(Fr78.rf σ).u (Or.inl rfl), ?_, ?_⟩
            · rw [if_pos (show (q.1 * b.1.2 < b.1.1 * q.2) from h23.elim (fun z => z.2) (fun z => by omega))]
              rw [hL_uL_e hrx, hx]
            · rw [if_neg (show ¬ (b.2.1 * q.2 < q.1 * b.2.2) from h49.elim (fun z => by omega) (fun z => z.2))]
              rw [hL_uL_n (by omega)]
              exact h8
          · refine g_aload_n dX2_widen_55 rfl ?_
            refine g_lload_n dX2_widen_56 rfl ?_
            refine g_putL dX2_widen_57 tf_2_139 rfl rfl rfl ?_
            refine g_return dX2_widen_60 rfl ⟨rfl, ?_⟩
            refine ⟨((Fr78.rf σ).u (Or.inl rfl)).u (Or.inr rfl), ?_, ?_⟩
            · rw [if_pos (show (q.1 * b.1.2 < b.1.1 * q.2) from h23.elim (fun z => z.2) (fun z => by omega)), hL_uL_n (by omega)]
              rw [hL_uL_e hrx, hx]
            · rw [if_pos (show (b.2.1 * q.2 < q.1 * b.2.2) from h49.elim (fun z => z.2) (fun z => by omega))]
              rw [hL_uL_e hrx, hx]
  · exfalso; rw [hx] at h1; omega

theorem cc2_widen {D : Nat} (hD : 3 ≤ D) (σ : am_HS) {a : Acc} (ha : AcC a σ) (x : Int) {v : Vl} (hv : vok v) (hx : x = encV v) : am_Do lc D mX2_widen σ [vR (some 5), vL x] (qV fun s => Fr78 σ s ∧ AcC (accS a v) s) := by
  rcases v with _ | _ | q
  · refine (cc2_widenO hD σ x hv hx (by decide)).mono ?_
    rintro res s ⟨rfl, rfl⟩
    exact ⟨rfl, Fr78.rf _, ha⟩
  · refine (cc2_widenO hD σ x hv hx (by decide)).mono ?_
    rintro res s ⟨rfl, rfl⟩
    exact ⟨rfl, Fr78.rf _, ha⟩
  · have hrx : rL x := by rw [hx]; exact encV_r hv
    rcases a with _ | b
    · refine (cc2_widen1 hD σ x hv hx rfl ha.1 ha.2).mono ?_
      rintro res s ⟨rfl, rfl⟩
      refine ⟨rfl, ((Fr78.rf _).u (Or.inl rfl)).u (Or.inr rfl), ⟨hv, ?_⟩, hv, ?_⟩
      · rw [hL_uL_n (by omega), hL_uL_e hrx]; exact hx
      · rw [hL_uL_e hrx]; exact hx
    · obtain ⟨⟨a1, a2⟩, a3, a4⟩ := ha
      refine (cc2_widen2 hD σ x hv hx rfl a1 a3 a2 a4).mono ?_
      rintro res s ⟨rfl, f, e7, e8⟩
      refine ⟨rfl, f, ⟨?_, e7⟩, ?_, e8⟩
      · show vok (some (some (if q.1 * b.1.2 < b.1.1 * q.2 then q else b.1)))
        split
        · exact hv
        · exact a1
      · show vok (some (some (if b.2.1 * q.2 < q.1 * b.2.2 then q else b.2)))
        split
        · exact hv
        · exact a3
