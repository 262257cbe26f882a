/-! THE CLASS: the grammar: what is read, and how a book's steps mean it -/
abbrev CTb : Type := Nat → Int × Int × Int
def cdT (s : am_HS) (B : Nat) : CTb := fun k => (hI s (25 + 9 * B) k, hI s (26 + 9 * B) k, hI s (27 + 9 * B) k)
def tdC (c : CTb) : TD := (fun k => (c k).1, fun k => (c k).2.1, fun _ => 0, fun _ => 0, fun _ => 0)

/-- what a set of segments of steps must be closed under: from s to t with at most h values on the stack; 0 a part or a sum, 1 a product, 2 sums under way, 3 products under way, 4 a call of sums -/
def CdC (c : CTb) (P : Nat → Nat → Nat → Nat → List (NDn × Bool) → Prop) : Prop :=
  (∀ (h s : Nat) (v : Int), c s = (0, v, 0) → (0 ≤ v ∧ v ≤ 9999) → 1 ≤ h → P 0 h s (s + 1) [(fun _ => vN v 1, false)]) ∧
  (∀ (h s : Nat) (v : Int), c s = (1, v, 0) → 1 ≤ h → P 0 h s (s + 1) [(fun env => env v, false)]) ∧
  (∀ (h s t : Nat) (x : NDn × Bool), P 0 h s t [x] → P 3 h s t [x]) ∧
  (∀ (h s t u : Nat) (l : List (NDn × Bool)) (e : NDn), P 3 (h + 1) s t l → P 0 h t u [(e, false)] → c u = (4, 0, 2) → P 3 (h + 1) s (u + 1) (l ++ [(e, false)])) ∧
  (∀ (h s t : Nat) (l : List (NDn × Bool)) (v : Int), P 3 h s t l → c t = (5, v, 1) → (1 ≤ v ∧ v ≤ 9999) → P 3 h s (t + 1) (l ++ [(fun _ => vN v 1, true)])) ∧
  (∀ (h s t : Nat) (l : List (NDn × Bool)), P 3 h s t l → c t = (13, 0, 1) → P 1 h s (t + 1) [(cmbL 3 0 l, false)]) ∧
  (∀ (h s t : Nat) (x : NDn × Bool), P 0 h s t [x] → P 1 h s t [(cmbL 3 0 [x], false)]) ∧
  (∀ (h s t : Nat) (x : NDn × Bool), P 1 h s t [x] → P 2 h s t [x]) ∧
  (∀ (h s t u : Nat) (l : List (NDn × Bool)) (e : NDn) (mi : Bool), P 2 (h + 1) s t l → P 1 h t u [(e, false)] → c u = (if mi = true then 3 else 2, 0, 2) → P 2 (h + 1) s (u + 1) (l ++ [(e, mi)])) ∧
  (∀ (h s t : Nat) (l : List (NDn × Bool)), P 2 h s t l → P 0 h s t [(cmbL 2 0 l, false)]) ∧
  (∀ (h s t : Nat) (x : NDn × Bool), P 0 h s t [x] → P 4 h s t [x]) ∧
  (∀ (h s t u : Nat) (l : List (NDn × Bool)) (e : NDn), P 4 (h + 10) s t l → P 0 h t u [(e, false)] → l.length ≤ 9 → P 4 (h + 10) s u (l ++ [(e, false)])) ∧
  (∀ (h s t : Nat) (l : List (NDn × Bool)) (op v w : Int), P 4 h s t l → c t = (op + 2, v, (l.length : Int)) → (4 ≤ op ∧ op ≤ 10) → l.length ≤ 10 → (9 ≤ op → l.length = 1) → ((7 ≤ op → w = v) ∧ (op < 7 → w = 0) ∧ 0 ≤ w ∧ w ≤ 9999) → P 0 h s (t + 1) [(cmbL op w l, false)]) ∧
  (∀ (m h h2 s t : Nat) (l : List (NDn × Bool)), P m h s t l → h ≤ h2 → P m h2 s t l)
def Cd (c : CTb) (m h s t : Nat) (l : List (NDn × Bool)) : Prop := ∀ P, CdC c P → P m h s t l
theorem Cd.put {c : CTb} {h s : Nat} {v : Int} (q0 : c s = (0, v, 0)) (q1 : (0 ≤ v ∧ v ≤ 9999)) (q2 : 1 ≤ h) : Cd c 0 h s (s + 1) [(fun _ => vN v 1, false)] := fun P hP => hP.1 _ _ _ q0 q1 q2
theorem Cd.nam {c : CTb} {h s : Nat} {v : Int} (q0 : c s = (1, v, 0)) (q1 : 1 ≤ h) : Cd c 0 h s (s + 1) [(fun env => env v, false)] := fun P hP => hP.2.1 _ _ _ q0 q1
theorem Cd.p1 {c : CTb} {h s t : Nat} {x : NDn × Bool} (q0 : Cd c 0 h s t [x]) : Cd c 3 h s t [x] := fun P hP => hP.2.2.1 _ _ _ _ (q0 P hP)
theorem Cd.pT {c : CTb} {h s t u : Nat} {l : List (NDn × Bool)} {e : NDn} (q0 : Cd c 3 (h + 1) s t l) (q1 : Cd c 0 h t u [(e, false)]) (q2 : c u = (4, 0, 2)) : Cd c 3 (h + 1) s (u + 1) (l ++ [(e, false)]) := fun P hP => hP.2.2.2.1 _ _ _ _ _ _ (q0 P hP) (q1 P hP) q2
theorem Cd.pO {c : CTb} {h s t : Nat} {l : List (NDn × Bool)} {v : Int} (q0 : Cd c 3 h s t l) (q1 : c t = (5, v, 1)) (q2 : (1 ≤ v ∧ v ≤ 9999)) : Cd c 3 h s (t + 1) (l ++ [(fun _ => vN v 1, true)]) := fun P hP => hP.2.2.2.2.1 _ _ _ _ _ (q0 P hP) q1 q2
theorem Cd.pE {c : CTb} {h s t : Nat} {l : List (NDn × Bool)} (q0 : Cd c 3 h s t l) (q1 : c t = (13, 0, 1)) : Cd c 1 h s (t + 1) [(cmbL 3 0 l, false)] := fun P hP => hP.2.2.2.2.2.1 _ _ _ _ (q0 P hP) q1
theorem Cd.pF {c : CTb} {h s t : Nat} {x : NDn × Bool} (q0 : Cd c 0 h s t [x]) : Cd c 1 h s t [(cmbL 3 0 [x], false)] := fun P hP => hP.2.2.2.2.2.2.1 _ _ _ _ (q0 P hP)
theorem Cd.s1 {c : CTb} {h s t : Nat} {x : NDn × Bool} (q0 : Cd c 1 h s t [x]) : Cd c 2 h s t [x] := fun P hP => hP.2.2.2.2.2.2.2.1 _ _ _ _ (q0 P hP)
theorem Cd.sT {c : CTb} {h s t u : Nat} {l : List (NDn × Bool)} {e : NDn} {mi : Bool} (q0 : Cd c 2 (h + 1) s t l) (q1 : Cd c 1 h t u [(e, false)]) (q2 : c u = (if mi = true then 3 else 2, 0, 2)) : Cd c 2 (h + 1) s (u + 1) (l ++ [(e, mi)]) := fun P hP => hP.2.2.2.2.2.2.2.2.1 _ _ _ _ _ _ _ (q0 P hP) (q1 P hP) q2
theorem Cd.sE {c : CTb} {h s t : Nat} {l : List (NDn × Bool)} (q0 : Cd c 2 h s t l) : Cd c 0 h s t [(cmbL 2 0 l, false)] := fun P hP => hP.2.2.2.2.2.2.2.2.2.1 _ _ _ _ (q0 P hP)
theorem Cd.c1 {c : CTb} {h s t : Nat} {x : NDn × Bool} (q0 : Cd c 0 h s t [x]) : Cd c 4 h s t [x] := fun P hP => hP.2.2.2.2.2.2.2.2.2.2.1 _ _ _ _ (q0 P hP)
theorem Cd.cT {c : CTb} {h s t u : Nat} {l : List (NDn × Bool)} {e : NDn} (q0 : Cd c 4 (h + 10) s t l) (q1 : Cd c 0 h t u [(e, false)]) (q2 : l.length ≤ 9) : Cd c 4 (h + 10) s u (l ++ [(e, false)]) := fun P hP => hP.2.2.2.2.2.2.2.2.2.2.2.1 _ _ _ _ _ _ (q0 P hP) (q1 P hP) q2
theorem Cd.cE {c : CTb} {h s t : Nat} {l : List (NDn × Bool)} {op v w : Int} (q0 : Cd c 4 h s t l) (q1 : c t = (op + 2, v, (l.length : Int))) (q2 : (4 ≤ op ∧ op ≤ 10)) (q3 : l.length ≤ 10) (q4 : (9 ≤ op → l.length = 1)) (q5 : ((7 ≤ op → w = v) ∧ (op < 7 → w = 0) ∧ 0 ≤ w ∧ w ≤ 9999)) : Cd c 0 h s (t + 1) [(cmbL op w l, false)] := fun P hP => hP.2.2.2.2.2.2.2.2.2.2.2.2.1 _ _ _ _ _ _ _ (q0 P hP) q1 q2 q3 q4 q5
theorem Cd.up {c : CTb} {m h h2 s t : Nat} {l : List (NDn × Bool)} (q0 : Cd c m h s t l) (q1 : h ≤ h2) : Cd c m h2 s t l := fun P hP => hP.2.2.2.2.2.2.2.2.2.2.2.2.2 _ _ _ _ _ _ (q0 P hP) q1
theorem Cd.le {c : CTb} {m h s t : Nat} {l : List (NDn × Bool)} (q : Cd c m h s t l) : s ≤ t := by
  refine q (fun _ _ s t _ => s ≤ t) ?_
  unfold CdC
  refine ⟨?_, ?_, ?_, ?_, ?_, ?_, ?_, ?_, ?_, ?_, ?_, ?_, ?_, ?_⟩ <;> intros <;> omega
theorem Cd.congr {c c2 : CTb} {m h s t : Nat} {l : List (NDn × Bool)} (q : Cd c m h s t l) (hc : ∀ k, s ≤ k → k < t → c2 k = c k) : Cd c2 m h s t l := by
  refine (q (fun m h s t l => s ≤ t ∧ ((∀ k, s ≤ k → k < t → c2 k = c k) → Cd c2 m h s t l)) ?_).2 hc
  unfold CdC
  refine ⟨?_, ?_, ?_, ?_, ?_, ?_, ?_, ?_, ?_, ?_, ?_, ?_, ?_, ?_⟩
  · exact fun h s v q1 q2 q3 => ⟨by omega, fun hc => Cd.put ((hc s (by omega) (by omega)).trans q1) q2 q3⟩
  · exact fun h s v q1 q2 => ⟨by omega, fun hc => Cd.nam ((hc s (by omega) (by omega)).trans q1) q2⟩
  · exact fun h s t x q1 => ⟨q1.1, fun hc => Cd.p1 (q1.2 hc)⟩
  · exact fun h s t u l e q1 q2 q3 => ⟨by omega, fun hc => Cd.pT (q1.2 fun k a b => hc k a (by omega)) (q2.2 fun k a b => hc k (by omega) (by omega)) ((hc u (by omega) (by omega)).trans q3)⟩
  · exact fun h s t l v q1 q2 q3 => ⟨by omega, fun hc => Cd.pO (q1.2 fun k a b => hc k a (by omega)) ((hc t (by omega) (by omega)).trans q2) q3⟩
  · exact fun h s t l q1 q2 => ⟨by omega, fun hc => Cd.pE (q1.2 fun k a b => hc k a (by omega)) ((hc t (by omega) (by omega)).trans q2)⟩
  · exact fun h s t x q1 => ⟨q1.1, fun hc => Cd.pF (q1.2 hc)⟩
  · exact fun h s t x q1 => ⟨q1.1, fun hc => Cd.s1 (q1.2 hc)⟩
  · exact fun h s t u l e mi q1 q2 q3 => ⟨by omega, fun hc => Cd.sT (q1.2 fun k a b => hc k a (by omega)) (q2.2 fun k a b => hc k (by omega) (by omega)) ((hc u (by omega) (by omega)).trans q3)⟩
  · exact fun h s t l q1 => ⟨q1.1, fun hc => Cd.sE (q1.2 hc)⟩
  · exact fun h s t x q1 => ⟨q1.1, fun hc => Cd.c1 (q1.2 hc)⟩
  · exact fun h s t u l e q1 q2 q3 => ⟨by omega, fun hc => Cd.cT (q1.2 fun k a b => hc k a (by omega)) (q2.2 fun k a b => hc k (by omega) (by omega)) q3⟩
  · exact fun h s t l op v w q1 q2 q3 q4 q5 q6 => ⟨by omega, fun hc => Cd.cE (q1.2 fun k a b => hc k a (by omega)) ((hc t (by omega) (by omega)).trans q2) q3 q4 q5 q6⟩
  · exact fun m h h2 s t l q1 q2 => ⟨q1.1, fun hc => Cd.up (q1.2 hc) q2⟩
/-! the reader's state -/
def cfP (B k : Nat) (x : Int) (o j : Nat) : Prop := (o = 4 ∧ 6 ≤ j ∧ j ≤ 9) ∨ (o = 6 + B ∧ (j = 1 ∨ j = 2)) ∨ (o = 21 + 9 * B ∧ (j : Int) + 1 = x) ∨ ((o = 25 + 9 * B ∨ o = 26 + 9 * B ∨ o = 27 + 9 * B) ∧ k ≤ j)
def CF (B k : Nat) (σ s : am_HS) : Prop := s.2 = σ.2 ∧ ∀ o j, ¬ cfP B k (hI σ (6 + B) 0) o j → hI s o j = hI σ o j
theorem CF.sz {B k : Nat} {σ s : am_HS} (h : CF B k σ s) : hI s (6 + B) 0 = hI σ (6 + B) 0 := h.2 (6 + B) 0 (by unfold cfP; omega)
theorem CF.rf (B k : Nat) (σ : am_HS) : CF B k σ σ := ⟨rfl, fun _ _ _ => rfl⟩
theorem CF.tr {B k k2 : Nat} {σ s u : am_HS} (h : CF B k σ s) (h2 : CF B k2 s u) (hk : k ≤ k2) : CF B k σ u := ⟨h2.1.trans h.1, fun o j q => (h2.2 o j (fun z => q (by rw [h.sz] at z; unfold cfP at *; omega))).trans (h.2 o j q)⟩
theorem CF.u {B k : Nat} {σ s : am_HS} (h : CF B k σ s) {o j : Nat} {x : Int} (hj : cfP B k (hI σ (6 + B) 0) o j) : CF B k σ (uI s o j x) := ⟨h.1, fun a b q => (hI_uI_n (fun z => q (by rw [z.1, z.2]; exact hj))).trans (h.2 a b q)⟩
/-- the reader's fixed state: the text's words, the book that is read into, the rule that was begun last -/
def CX (tx : Nat → Int) (n W b B r : Nat) (s : am_HS) : Prop := s.2.2 = cH b ∧ hI s (6 + B) 0 = (r : Int) + 1 ∧ TkR tx n (W + 1) s ∧ (b + B = 1 ∧ r < 12 ∧ W ≤ 600) ∧ (tkT tx n W).1 = 0
theorem CX.of {tx : Nat → Int} {n W b B r k : Nat} {σ s : am_HS} (h : CX tx n W b B r σ) (f : CF B k σ s) : CX tx n W b B r s := by
  obtain ⟨h1, h2, h3, h4, h5⟩ := h
  have e0 := f.2 (6 + B) 0 (by unfold cfP; omega)
  refine ⟨(congrArg Prod.snd f.1).trans h1, e0.trans h2, fun l hl => ?_, h4, h5⟩
  have e1 := f.2 10 l (by unfold cfP; omega)
  have e2 := f.2 11 l (by unfold cfP; omega)
  have e3 := f.2 12 l (by unfold cfP; omega)
  rw [e1, e2, e3]
  exact h3 l hl
/-- at a word, without a fault, with k steps -/
def CI (W B i k : Nat) (s : am_HS) : Prop := hI s 4 6 = (i : Int) ∧ hI s 4 7 = hI s 10 i ∧ hI s 4 8 = hI s 11 i ∧ hI s 4 9 < 0 ∧ i ≤ W ∧ hI s (6 + B) 2 = (k : Int)
theorem CI.kn {tx : Nat → Int} {n W b B r i k : Nat} {s : am_HS} (hx : CX tx n W b B r s) (h : CI W B i k s) : knC (tkT tx n i) (hI s 4 7) (hI s 4 8) := by
  rw [h.2.1, h.2.2.1]
  have := h.2.2.2.2.1
  exact (hx.2.2.1 i (by omega)).1
theorem CI.pl {tx : Nat → Int} {n W b B r i k : Nat} {s : am_HS} (hx : CX tx n W b B r s) (h : CI W B i k s) : hI s 12 i = (plT tx n i : Int) := by
  have := h.2.2.2.2.1
  exact (hx.2.2.1 i (by omega)).2
theorem CI.lt {tx : Nat → Int} {n W b B r i k : Nat} {s : am_HS} (hx : CX tx n W b B r s) (h : CI W B i k s) (hk : (tkT tx n i).1 ≠ 0) : i < W := by
  have h1 := h.2.2.2.2.1
  rcases Nat.lt_or_ge i W with q | q
  · exact q
  · have : i = W := by omega
    rw [this] at hk
    exact absurd hx.2.2.2.2 hk
def FlQ (tx : Nat → Int) (n B f : Nat) (s : am_HS) : Prop := hI s 4 9 = (plT tx n f : Int) ∧ 0 ≤ hI s (6 + B) 2 ∧ hI s (6 + B) 2 ≤ 1200
theorem tnS_o {s : am_HS} {i o j : Nat} (h : ¬ (o = 4 ∧ 6 ≤ j ∧ j ≤ 8)) : hI (tnS s i) o j = hI s o j := by
  unfold tnS
  rw [hI_uI_n (by omega), hI_uI_n (by omega), hI_uI_n (by omega)]
theorem tn_ok {tx : Nat → Int} {n W b B r i k : Nat} {s : am_HS} (hx : CX tx n W b B r s) (h : CI W B i k s) (hi : i < W) : CX tx n W b B r (tnS s (i + 1)) ∧ CI W B (i + 1) k (tnS s (i + 1)) ∧ (∀ c, CF B c s (tnS s (i + 1))) := by
  have hf : ∀ c, CF B c s (tnS s (i + 1)) := fun c => (((CF.rf B c s).u (by unfold cfP; omega)).u (by unfold cfP; omega)).u (by unfold cfP; omega)
  obtain ⟨h1, h2, h3, h4, h5, h6⟩ := h
  obtain ⟨x1, x2, x3, x4, x5⟩ := id hx
  refine ⟨hx.of (hf 0), ⟨?_, ?_, ?_, ?_, by omega, ?_⟩, hf⟩
  · unfold tnS
    rw [hI_uI_n (by omega), hI_uI_n (by omega), hI_uI_e ⟨by omega, by omega⟩]
  · rw [tnS_o (o := 10) (j := i + 1) (by omega)]
    unfold tnS
    rw [hI_uI_n (by omega), hI_uI_e (hI_r _ _ _)]
  · rw [tnS_o (o := 11) (j := i + 1) (by omega)]
    unfold tnS
    rw [hI_uI_e (hI_r _ _ _)]
  · rw [tnS_o (by omega)]; exact h4
  · rw [tnS_o (by omega)]; exact h6
theorem fl_ok {tx : Nat → Int} {n W b B r i k : Nat} {s : am_HS} (hx : CX tx n W b B r s) (h : CI W B i k s) (hk : k ≤ 1200) : flS s i = uI s 4 9 (hI s 12 i) ∧ CX tx n W b B r (flS s i) ∧ FlQ tx n B i (flS s i) ∧ (∀ c, CF B c s (flS s i)) := by
  have e : flS s i = uI s 4 9 (hI s 12 i) := if_pos h.2.2.2.1
  have hp := CI.pl hx h
  have hf : ∀ c, CF B c s (flS s i) := fun c => by rw [e]; exact (CF.rf B c s).u (by unfold cfP; omega)
  refine ⟨e, hx.of (hf 0), ?_, hf⟩
  have h6 := h.2.2.2.2.2
  have hb : b + B = 1 := hx.2.2.2.1.1
  rw [e]
  refine ⟨?_, ?_, ?_⟩
  · rw [hI_uI_e (hI_r _ _ _)]; exact hp
  · rw [hI_uI_n (by omega)]; omega
  · rw [hI_uI_n (by omega)]; omega
theorem cc1_takeX {D : Nat} (hD : 2 ≤ D) (σ : am_HS) {b : Nat} (hf : σ.2.2 = cH b) (i : Nat) (hi : i < 601) (ha : hI σ 4 6 = (i : Int)) (due : Int) (hno : hI σ 4 7 ≠ due) : am_Do lc D mX1_take σ [vR (some 4), vI due] (qV fun s => s = flS σ i) := by
  obtain ⟨d, rfl⟩ : ∃ d, D = d + 1 := ⟨D - 1, by omega⟩
  refine am_enter rfl rfl (Nat.le_of_ble_eq_true rfl) ?_
  refine g_aload_n dX1_take_0 rfl ?_
  refine g_getI dX1_take_1 tf_1_32 rfl rfl ?_
  refine g_if_ge (tgt := 28) dX1_take_4 (by decide) (fun c4 => ?_) (fun c4 => ?_)
  · refine g_aload_n dX1_take_28 rfl ?_
    refine g_callvV dX1_take_29 tm_1_62 rfl ⟨rfl, rfl⟩ rfl (Nat.le_of_ble_eq_true rfl) (cc1_fail (by omega) σ hf i (by omega) ha) (fun s29 h29 => ?_)
    obtain rfl := h29
    refine g_return dX1_take_32 rfl ⟨rfl, ?_⟩
    rfl
  · refine g_aload_n dX1_take_7 rfl ?_
    refine g_getI dX1_take_8 tf_1_49 rfl rfl ?_
    refine g_iload_n dX1_take_11 rfl ?_
    refine g_icmp_ne (tgt := 28) dX1_take_12 (by decide) (fun c12 => ?_) (fun c12 => ?_)
    · refine g_aload_n dX1_take_28 rfl ?_
      refine g_callvV dX1_take_29 tm_1_62 rfl ⟨rfl, rfl⟩ rfl (Nat.le_of_ble_eq_true rfl) (cc1_fail (by omega) σ hf i (by omega) ha) (fun s29 h29 => ?_)
      obtain rfl := h29
      refine g_return dX1_take_32 rfl ⟨rfl, ?_⟩
      rfl
    · exfalso; omega

theorem cc1_failN {D : Nat} (hD : 1 ≤ D) (σ : am_HS) (hft : 0 ≤ hI σ 4 9) : am_Do lc D mX1_fail σ [vR (some 4)] (qV fun s => s = σ) := by
  obtain ⟨d, rfl⟩ : ∃ d, D = d + 1 := ⟨D - 1, by omega⟩
  refine am_enter rfl rfl (Nat.le_of_ble_eq_true rfl) ?_
  refine g_aload_n dX1_fail_0 rfl ?_
  refine g_getI dX1_fail_1 tf_1_32 rfl rfl ?_
  refine g_if_ge (tgt := 39) dX1_fail_4 (by decide) (fun c4 => ?_) (fun c4 => ?_)
  · refine g_return dX1_fail_39 rfl ⟨rfl, ?_⟩
    rfl
  · exfalso; omega

theorem cc1_takeN {D : Nat} (hD : 2 ≤ D) (σ : am_HS) (hft : 0 ≤ hI σ 4 9) (due : Int) : am_Do lc D mX1_take σ [vR (some 4), vI due] (qV fun s => s = σ) := by
  obtain ⟨d, rfl⟩ : ∃ d, D = d + 1 := ⟨D - 1, by omega⟩
  refine am_enter rfl rfl (Nat.le_of_ble_eq_true rfl) ?_
  refine g_aload_n dX1_take_0 rfl ?_
  refine g_getI dX1_take_1 tf_1_32 rfl rfl ?_
  refine g_if_ge (tgt := 28) dX1_take_4 (by decide) (fun c4 => ?_) (fun c4 => ?_)
  · refine g_aload_n dX1_take_28 rfl ?_
    refine g_callvV dX1_take_29 tm_1_62 rfl ⟨rfl, rfl⟩ rfl (Nat.le_of_ble_eq_true rfl) (cc1_failN (by omega) σ hft) (fun s29 h29 => ?_)
    obtain rfl := h29
    refine g_return dX1_take_32 rfl ⟨rfl, ?_⟩
    rfl
  · exfalso; omega

theorem cc1_openN {D : Nat} (hD : 2 ≤ D) (σ : am_HS) (hft : 0 ≤ hI σ 4 9) (dp : Int) : am_Do lc D mX1_open σ [vR (some 4), vI dp] (qV fun s => s = σ) := by
  obtain ⟨d, rfl⟩ : ∃ d, D = d + 1 := ⟨D - 1, by omega⟩
  refine am_enter rfl rfl (Nat.le_of_ble_eq_true rfl) ?_
  refine g_iload_n dX1_open_0 rfl ?_
  refine g_bipush dX1_open_1 (by decide) ?_
  refine g_icmp_ge (tgt := 35) dX1_open_3 (by decide) (fun c3 => ?_) (fun c3 => ?_)
  · refine g_aload_n dX1_open_35 rfl ?_
    refine g_callvV dX1_open_36 tm_1_62 rfl ⟨rfl, rfl⟩ rfl (Nat.le_of_ble_eq_true rfl) (cc1_failN (by omega) σ hft) (fun s36 h36 => ?_)
    obtain rfl := h36
    refine g_return dX1_open_39 rfl ⟨rfl, ?_⟩
    rfl
  · refine g_aload_n dX1_open_6 rfl ?_
    refine g_getI dX1_open_7 tf_1_32 rfl rfl ?_
    refine g_if_ge (tgt := 35) dX1_open_10 (by decide) (fun c10 => ?_) (fun c10 => ?_)
    · refine g_aload_n dX1_open_35 rfl ?_
      refine g_callvV dX1_open_36 tm_1_62 rfl ⟨rfl, rfl⟩ rfl (Nat.le_of_ble_eq_true rfl) (cc1_failN (by omega) σ hft) (fun s36 h36 => ?_)
      obtain rfl := h36
      refine g_return dX1_open_39 rfl ⟨rfl, ?_⟩
      rfl
    · exfalso; omega

theorem cc1_sumN {D : Nat} (hD : 1 ≤ D) (σ : am_HS) (hft : 0 ≤ hI σ 4 9) (dp : Int) : am_Do lc D mX1_readSum σ [vR (some 4), vI dp] (qV fun s => s = σ) := by
  obtain ⟨d, rfl⟩ : ∃ d, D = d + 1 := ⟨D - 1, by omega⟩
  refine am_enter rfl rfl (Nat.le_of_ble_eq_true rfl) ?_
  refine g_aload_n dX1_readSum_0 rfl ?_
  refine g_getI dX1_readSum_1 tf_1_32 rfl rfl ?_
  refine g_if_ge (tgt := 13) dX1_readSum_4 (by decide) (fun c4 => ?_) (fun c4 => ?_)
  · refine g_return dX1_readSum_13 rfl ⟨rfl, ?_⟩
    rfl
  · exfalso; omega

theorem cc1_partN {D : Nat} (hD : 1 ≤ D) (σ : am_HS) (hft : 0 ≤ hI σ 4 9) (dp : Int) : am_Do lc D mX1_readPart σ [vR (some 4), vI dp] (qV fun s => s = σ) := by
  obtain ⟨d, rfl⟩ : ∃ d, D = d + 1 := ⟨D - 1, by omega⟩
  refine am_enter rfl rfl (Nat.le_of_ble_eq_true rfl) ?_
  refine g_aload_n dX1_readPart_0 rfl ?_
  refine g_getI dX1_readPart_1 tf_1_32 rfl rfl ?_
  refine g_if_lt (tgt := 8) dX1_readPart_4 (by decide) (fun c4 => ?_) (fun c4 => ?_)
  · exfalso; omega
  · refine g_return dX1_readPart_7 rfl ⟨rfl, ?_⟩
    rfl

