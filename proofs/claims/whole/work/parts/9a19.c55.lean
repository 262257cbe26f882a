/-! THE CLASS: what was read and tied is a book -/
theorem seg_of {bf : Nat → Nat} : ∀ (N : Nat), bf 0 = 0 → ∀ k, k < bf N → ∃ r, r < N ∧ bf r ≤ k ∧ k < bf (r + 1)
  | 0, h0, k, hk => by rw [h0] at hk; exact absurd hk (Nat.not_lt_zero k)
  | N + 1, h0, k, hk => by
    rcases Nat.lt_or_ge k (bf N) with q | q
    · obtain ⟨r, r1, r2⟩ := seg_of N h0 k q
      exact ⟨r, by omega, r2⟩
    · exact ⟨N, by omega, q, hk⟩
theorem rd_hyp {B n : Nat} {tx : Nat → Int} {acc : List RU} {bf : Nat → Nat} {s : am_HS} (h : RLs B n tx acc bf s) (hw : ∀ a ∈ acc, wkS a.1 < 0) : (∀ k, k < acc.length → bf k < bf (k + 1)) ∧ (∀ k, k < acc.length → hI s (20 + 9 * B) k = (bf k : Int) ∧ hI s (21 + 9 * B) k = (bf (k + 1) : Int)) ∧ (∀ k, k < bf acc.length → hI s (25 + 9 * B) k = 1 → -1000000 ≤ hI s (26 + 9 * B) k ∧ hI s (26 + 9 * B) k ≤ 1000000) ∧ (∀ j, j < acc.length → hI s (19 + 9 * B) j = nmA acc j) ∧ ∀ j, j < acc.length → ¬ (622 ≤ nmA acc j ∧ nmA acc j < 632) := by
  refine ⟨h.mono, fun k hk => ⟨(h.2.2.1 k _ (auN_get hk)).1, (h.2.2.1 k _ (auN_get hk)).2.1⟩, fun k hk h1 => ?_, fun j hj => (h.2.2.1 j _ (auN_get hj)).2.2.1, fun j hj => ?_⟩
  · obtain ⟨r, r1, r2, r3⟩ := seg_of acc.length h.2.1 k hk
    obtain ⟨-, -, -, -, -, hN⟩ := h.2.2.1 r _ (auN_get r1)
    obtain ⟨l, _, _, l3, _⟩ := hN.1 k r2 r3 h1
    have l3 : tkT tx n l = (2, hI s (26 + 9 * B) k) := l3
    have := tkT_nam (tx := tx) (n := n) (i := l) (by rw [l3])
    rw [l3] at this
    have t1 : 0 ≤ hI s (26 + 9 * B) k ∧ hI s (26 + 9 * B) k ≤ 531440 := this
    omega
  · have := hw (auN acc j) (List.mem_of_getElem? (auN_get hj))
    exact (wkS_lt _).mp this
theorem plC_congr {nm nm' : Nat → Int} {N : Nat} {W v : Int} (h : ∀ j, j < N → nm' j = nm j) : plC nm' N W v = plC nm N W v := by
  unfold plC
  rw [fdS_congr h]
theorem tgE_M {x : Int} (h : 0 ≤ x) (h110 : x < 110) (h2 : tgE x < 22) : tgtM x = phB (tgE x) := by
  unfold tgtM phB tgE at *
  by_cases q : x < 100
  · rw [if_pos q] at h2 ⊢
    rw [if_pos q, if_neg (by omega)]
    omega
  · rw [if_neg q] at h2 ⊢
    rw [if_neg q]
    split <;> omega
theorem ho_C {B n : Nat} {tx : Nat → Int} {acc : List RU} {bf : Nat → Nat} {s : am_HS} (h : RLs B n tx acc bf s) (hw : ∀ a ∈ acc, wkS a.1 < 0) {W : Int} {r : Nat} (hr : r < acc.length) : (∃ k, bf r ≤ k ∧ k < bf (r + 1) ∧ hI s (25 + 9 * B) k = 1 ∧ PTc s B acc.length W k < 0) ↔ hoA (tkT tx n) acc W r := by
  obtain ⟨-, -, -, e4, e5⟩ := rd_hyp h hw
  obtain ⟨-, -, -, -, -, hN⟩ := h.2.2.1 r _ (auN_get hr)
  have hp : ∀ k, PTc s B acc.length W k = plC (nmA acc) acc.length W (hI s (26 + 9 * B) k) := fun k => plC_congr e4
  unfold hoA
  constructor
  · rintro ⟨k, k1, k2, k3, k4⟩
    obtain ⟨l, l1, l2, l3, l4⟩ := hN.1 k k1 k2 k3
    refine ⟨l, _, l1, l2, l3, l4, ?_⟩
    rw [hp] at k4
    rcases plC_rs (W := W) (v := hI s (26 + 9 * B) k) h.1 e5 with ⟨z, _⟩ | ⟨_, z, _⟩
    · exact z
    · exact absurd k4 (by omega)
  · rintro ⟨l, v, l1, l2, l3, l4, l5⟩
    obtain ⟨k, k1, k2, k3, k4⟩ := hN.2 l v l1 l2 l3 l4
    refine ⟨k, k1, k2, k3, ?_⟩
    have k4 : hI s (26 + 9 * B) k = v := k4
    rw [hp, k4]
    rcases plC_rs (W := W) (v := v) h.1 e5 with ⟨_, z⟩ | ⟨z, _⟩
    · rw [z]; decide
    · exact absurd l5 (Int.not_lt.mpr z)
/-- the names of a rule, where there is no hole -/
theorem pl_ok {acc : List RU} (hl : acc.length ≤ 12) (hnm : ∀ j, j < acc.length → ¬ (622 ≤ nmA acc j ∧ nmA acc j < 632)) {T : Nat → Int × Int} {W : Int} {r l : Nat} {v : Int} (hno : ¬ hoA T acc W r) (l1 : (auN acc r).2.2.1 ≤ l) (l2 : l < (auN acc r).2.2.2) (l3 : T l = (2, v)) (l4 : fnS v = 0) : plC (nmA acc) acc.length W v = (tgE (rsA acc W v) : Int) ∧ tgE (rsA acc W v) < 22 ∧ tgtM (rsA acc W v) = phB (tgE (rsA acc W v)) ∧ 0 ≤ rsA acc W v := by
  rcases plC_rs (W := W) (v := v) hl hnm with ⟨z, _⟩ | ⟨z1, z2, z3⟩
  · exact absurd ⟨l, v, l1, l2, l3, l4, z⟩ hno
  · refine ⟨z2, z3, tgE_M z1 ?_ z3, z1⟩
    have q : rsA acc W v = -1 ∨ (0 ≤ rsA acc W v ∧ rsA acc W v < (acc.length : Int)) ∨ (100 ≤ rsA acc W v ∧ rsA acc W v < 110 ∧ rsA acc W v - 100 < W) := rsS_r (nmA acc) hl W v
    omega
/-- the rows of names -/
theorem nbk_C {B n : Nat} {tx : Nat → Int} {acc : List RU} {bf : Nat → Nat} {s s2 : am_HS} (h : RLs B n tx acc bf s) (hw : ∀ a ∈ acc, wkS a.1 < 0) {W : Int} (hT : TI s B acc.length W bf acc.length (bf acc.length) s2) (hno : ∀ r, r < acc.length → ¬ hoA (tkT tx n) acc W r) : NBk s2 B acc.length (edA (tkT tx n) acc W) := by
  obtain ⟨-, -, -, e4, e5⟩ := rd_hyp h hw
  intro r hr
  obtain ⟨g, g1, g2, g3⟩ := hT.2.2.2 r hr
  refine ⟨g, g1, g2, fun a => (g3 a).trans ?_⟩
  obtain ⟨-, -, -, -, -, hN⟩ := h.2.2.1 r _ (auN_get hr)
  have hp : ∀ k, PTc s B acc.length W k = plC (nmA acc) acc.length W (hI s (26 + 9 * B) k) := fun k => plC_congr e4
  unfold edA
  constructor
  · rintro ⟨k, k1, k2, k3, k4⟩
    obtain ⟨l, l1, l2, l3, l4⟩ := hN.1 k k1 k2 k3
    have l3 : tkT tx n l = (2, hI s (26 + 9 * B) k) := l3
    obtain ⟨p1, p2, p3, p4⟩ := pl_ok h.1 e5 (hno r hr) l1 l2 l3 l4
    rw [hp, p1] at k4
    have ea : tgE (rsA acc W (hI s (26 + 9 * B) k)) = a := by omega
    exact ⟨by omega, l, _, l1, l2, l3, l4, by rw [p3, ea]⟩
  · rintro ⟨a1, l, v, l1, l2, l3, l4, l5⟩
    obtain ⟨p1, p2, p3, p4⟩ := pl_ok h.1 e5 (hno r hr) l1 l2 l3 l4
    obtain ⟨k, k1, k2, k3, k4⟩ := hN.2 l v l1 l2 l3 l4
    have k4 : hI s (26 + 9 * B) k = v := k4
    refine ⟨k, k1, k2, k3, ?_⟩
    rw [hp, k4, p1]
    rw [p3] at l5
    rw [phB_inj p2 a1 l5]
/-- a rule's steps behind 'tie' -/
theorem cd_C {B n : Nat} {tx : Nat → Int} {acc : List RU} {bf : Nat → Nat} {s s2 : am_HS} (hB : B < 2) (h : RLs B n tx acc bf s) (hw : ∀ a ∈ acc, wkS a.1 < 0) {W : Int} (hT : TI s B acc.length W bf acc.length (bf acc.length) s2) (hno : ∀ r, r < acc.length → ¬ hoA (tkT tx n) acc W r) {r : Nat} (hr : r < acc.length) : Cd (cdT s2 B) 0 99 (bf r) (bf (r + 1)) [(tieN (plC (nmA acc) acc.length W) (auN acc r).2.1, false)] ∧ ∀ env : Nat → Vl, evA acc W r env = tieN (plC (nmA acc) acc.length W) (auN acc r).2.1 (eNv env) := by
  obtain ⟨e1, -, -, e4, e5⟩ := rd_hyp h hw
  obtain ⟨-, -, -, -, hC, hN⟩ := h.2.2.1 r _ (auN_get hr)
  have hbr := cf_mono e1 r hr
  constructor
  · refine hC.tie (pl := plC (nmA acc) acc.length W) (fun k k1 k2 => ?_)
    have e25 := hT.1.2 (25 + 9 * B) k (by omega) (by omega)
    have e27 := hT.1.2 (27 + 9 * B) k (by omega) (by omega)
    have e26 := hT.2.1 k
    unfold cdT
    dsimp only
    rw [e25, e27, e26]
    by_cases q : hI s (25 + 9 * B) k = 1
    · rw [if_pos ⟨by omega, q⟩, if_pos q, q]
      have : PTc s B acc.length W k = plC (nmA acc) acc.length W (hI s (26 + 9 * B) k) := plC_congr e4
      rw [this]
    · rw [if_neg (fun z => q z.2), if_neg q]
  · intro env
    show (auN acc r).2.1 (fun v => env (tgE (rsA acc W v))) = (auN acc r).2.1 (fun v => eNv env (plC (nmA acc) acc.length W v))
    refine hC.dep (env := fun v => env (tgE (rsA acc W v))) (env' := fun v => eNv env (plC (nmA acc) acc.length W v)) (fun k k1 k2 k3 => ?_) ((auN acc r).2.1, false) (by simp)
    obtain ⟨l, l1, l2, l3, l4⟩ := hN.1 k k1 k2 k3
    have l3 : tkT tx n l = (2, (cdT s B k).2.1) := l3
    have l4 : fnS (cdT s B k).2.1 = 0 := l4
    obtain ⟨p1, p2, p3, p4⟩ := pl_ok h.1 e5 (hno r hr) l1 l2 l3 l4
    show env (tgE (rsA acc W (cdT s B k).2.1)) = eNv env (plC (nmA acc) acc.length W (cdT s B k).2.1)
    rw [p1]
    unfold eNv
    rw [if_pos ⟨by omega, by omega⟩, Int.toNat_natCast]
theorem bks_C {B n : Nat} {tx : Nat → Int} {acc : List RU} {bf : Nat → Nat} {s : am_HS} (h : RLs B n tx acc bf s) (hw : ∀ a ∈ acc, wkS a.1 < 0) {W : Int} (hno : ∀ r, r < acc.length → ¬ hoA (tkT tx n) acc W r) (hρ : ∃ ρ : Nat → Nat, (∀ r, r < acc.length → ρ r < 12) ∧ ∀ r r', r < acc.length → r' < acc.length → edA (tkT tx n) acc W r r' → ρ r' < ρ r) : BkS acc.length (evA acc W) (edA (tkT tx n) acc W) := by
  obtain ⟨-, -, -, e4, e5⟩ := rd_hyp h hw
  refine ⟨h.1, fun r hr env env' he => ?_, fun r hr env he => ?_, fun r b hr hb => edA_r h.1 hno hr hb, hρ⟩
  · obtain ⟨-, -, -, -, hC, hN⟩ := h.2.2.1 r _ (auN_get hr)
    show (auN acc r).2.1 (fun v => env (tgE (rsA acc W v))) = (auN acc r).2.1 (fun v => env' (tgE (rsA acc W v)))
    refine hC.dep (env := fun v => env (tgE (rsA acc W v))) (env' := fun v => env' (tgE (rsA acc W v))) (fun k k1 k2 k3 => ?_) ((auN acc r).2.1, false) (by simp)
    obtain ⟨l, l1, l2, l3, l4⟩ := hN.1 k k1 k2 k3
    have l3 : tkT tx n l = (2, (cdT s B k).2.1) := l3
    have l4 : fnS (cdT s B k).2.1 = 0 := l4
    obtain ⟨p1, p2, p3, p4⟩ := pl_ok h.1 e5 (hno r hr) l1 l2 l3 l4
    show env (tgE (rsA acc W (cdT s B k).2.1)) = env' (tgE (rsA acc W (cdT s B k).2.1))
    refine he _ ?_
    have hed : edA (tkT tx n) acc W r (phB (tgE (rsA acc W (cdT s B k).2.1))) := ⟨l, _, l1, l2, l3, l4, p3⟩
    by_cases q : tgE (rsA acc W (cdT s B k).2.1) < 10
    · exact Or.inl ⟨q, by rw [← phB_w q]; exact hed⟩
    · refine Or.inr ⟨phB (tgE (rsA acc W (cdT s B k).2.1)), ?_, hed, by unfold phB; rw [if_neg q]; omega⟩
      rcases edA_r h.1 hno hr hed with z | z
      · exact z
      · exfalso
        unfold phB at z
        rw [if_neg q] at z
        omega
  · obtain ⟨-, -, -, -, hC, -⟩ := h.2.2.1 r _ (auN_get hr)
    obtain ⟨e, e1, e2⟩ := hC.pv (E := fun v => env (tgE (rsA acc W v))) (fun v => he _)
    rw [← one_in e1] at e2
    exact e2
theorem rank_C {acc : List RU} (hl : acc.length ≤ 12) {T : Nat → Int × Int} {W : Nat} {nd : Nat → Int} (hr : ¬ ∃ k, k < 22 ∧ rch (EdW (edA T acc W) acc.length W nd) 22 k k) : ∃ ρ : Nat → Nat, (∀ r, r < acc.length → ρ r < 12) ∧ ∀ r r', r < acc.length → r' < acc.length → edA T acc W r r' → ρ r' < ρ r := by
  obtain ⟨ρ, r1, r2⟩ := rank_of hr
  exact ⟨ρ, fun r h => r1 r (by omega), fun r r' h h' he => r2 r r' (by omega) (by omega) (Or.inl ⟨h, he⟩)⟩
theorem edW_lt {acc : List RU} {T : Nat → Int × Int} {W : Nat} {r a : Nat} (h : edA T acc W r (12 + a)) (hl : acc.length ≤ 12) (hno : ¬ hoA T acc W r) : a < W := by
  obtain ⟨l, v, l1, l2, l3, l4, l5⟩ := h
  have hn : ¬ rsA acc W v < 0 := fun q => hno ⟨l, v, l1, l2, l3, l4, q⟩
  rcases rsS_r (nmA acc) hl (W : Int) v with z | z | z
  · exfalso; exact hn (by show rsS _ _ _ _ < 0; rw [z]; decide)
  · unfold tgtM at l5
    have : rsA acc W v < 100 := by show rsS _ _ _ _ < 100; omega
    rw [if_pos this] at l5
    have : 0 ≤ rsA acc W v ∧ rsA acc W v < (acc.length : Int) := z
    omega
  · unfold tgtM at l5
    have z : 100 ≤ rsA acc W v ∧ rsA acc W v < 110 ∧ rsA acc W v - 100 < (W : Int) := z
    rw [if_neg (by omega)] at l5
    omega
theorem cH_swap {σ : am_HS} {b B : Nat} (hb : b + B = 1) (hf : σ.2.2 = cH b) : (uR (uR σ 4 2 (some (6 + b))) 0 5 (some (6 + B))).2.2 = cH B := by
  funext o k
  show (if o = 0 ∧ k = 5 then some (6 + B) else if o = 4 ∧ k = 2 then some (6 + b) else σ.2.2 o k) = cH B o k
  rw [hf]
  have e : (b = 0 ∧ B = 1) ∨ (b = 1 ∧ B = 0) := by omega
  by_cases h0 : o = 0
  · subst h0
    by_cases h5 : k = 5
    · subst h5
      rw [if_pos ⟨rfl, rfl⟩]
      rcases e with ⟨rfl, rfl⟩ | ⟨rfl, rfl⟩ <;> rfl
    · rw [if_neg (fun z => h5 z.2), if_neg (fun z => absurd z.1 (by decide))]
      rcases e with ⟨rfl, rfl⟩ | ⟨rfl, rfl⟩ <;> (rcases k with _ | _ | _ | _ | _ | _ | k <;> first | rfl | exact absurd rfl h5)
  · rw [if_neg (fun z => h0 z.1)]
    by_cases h4 : o = 4
    · subst h4
      by_cases h2 : k = 2
      · subst h2
        rw [if_pos ⟨rfl, rfl⟩]
        rcases e with ⟨rfl, rfl⟩ | ⟨rfl, rfl⟩ <;> rfl
      · rw [if_neg (fun z => h2 z.2)]
        rcases e with ⟨rfl, rfl⟩ | ⟨rfl, rfl⟩ <;> (rcases k with _ | _ | _ | k <;> first | rfl | exact absurd rfl h2)
    · rw [if_neg (fun z => h4 z.1)]
      unfold cH
      rw [if_neg h0, if_neg h0, if_neg h4, if_neg h4]
