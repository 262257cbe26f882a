/-! RULES THAT WERE READ: holes, rings, meanings -/
def auN (acc : List RU) (r : Nat) : RU := acc.getD r (0, (fun _ => vO, (0, 0)))
def nmA (acc : List RU) (r : Nat) : Int := (auN acc r).1
abbrev rsA (acc : List RU) (W : Int) (v : Int) : Int := rsS (nmA acc) acc.length W v
def hoA (T : Nat → Int × Int) (acc : List RU) (W : Int) (r : Nat) : Prop := ∃ l v, (auN acc r).2.2.1 ≤ l ∧ l < (auN acc r).2.2.2 ∧ T l = (2, v) ∧ fnS v = 0 ∧ rsA acc W v < 0
def edA (T : Nat → Int × Int) (acc : List RU) (W : Int) (r b : Nat) : Prop := ∃ l v, (auN acc r).2.2.1 ≤ l ∧ l < (auN acc r).2.2.2 ∧ T l = (2, v) ∧ fnS v = 0 ∧ tgtM (rsA acc W v) = b
def evA (acc : List RU) (W : Int) (r : Nat) : Den := tieD (rsA acc W) (auN acc r).2.1
def twA (acc : List RU) (r : Nat) : Prop := fdS (nmA acc) acc.length (nmA acc r) < (r : Int)
/-- the edges of rules and works -/
def EdW (ed : Nat → Nat → Prop) (n W : Nat) (nd : Nat → Int) (k b : Nat) : Prop := (k < n ∧ ed k b) ∨ (∃ w, w < W ∧ k = 12 + w ∧ 0 ≤ nd w ∧ nd w < (n : Int) ∧ b = (nd w).toNat)
theorem auN_get {acc : List RU} {r : Nat} (h : r < acc.length) : acc[r]? = some (auN acc r) := by
  unfold auN
  rw [List.getD_eq_getElem?_getD, List.getElem?_eq_getElem h]
  rfl
theorem RuK.nm {oth n : Nat} {tx : Nat → Int} {acc : List RU} {cf : Nat → Nat} {s : am_HS} (h : RuK oth n tx acc cf s) : ∀ r, r < acc.length → hI s 24 (12 * oth + r) = nmA acc r := fun r hr => (h r _ (auN_get hr)).1
theorem rsS_congr {nm nm' : Nat → Int} {n : Nat} {W v : Int} (h : ∀ j, j < n → nm' j = nm j) : rsS nm' n W v = rsS nm n W v := by
  unfold rsS
  rw [fdS_congr h]
theorem hl_ho {oth n : Nat} {tx : Nat → Int} {acc : List RU} {cf : Nat → Nat} {s : am_HS} (h : RuK oth n tx acc cf s) {W : Int} {r : Nat} (hr : r < acc.length) : hlM s oth acc.length W (cf r) (cf (r + 1)) ↔ hoA (tkT tx n) acc W r := by
  obtain ⟨-, -, -, -, hN⟩ := h r _ (auN_get hr)
  have er : ∀ v, rsS (fun k => hI s 24 (12 * oth + k)) acc.length W v = rsA acc W v := fun v => rsS_congr h.nm
  unfold hlM hoA
  constructor
  · rintro ⟨k, k1, k2, k3, k4⟩
    rw [er] at k4
    obtain ⟨l, l1, l2, l3, l4⟩ := hN.1 (1600 * oth + k) (by omega) (by omega) k3
    exact ⟨l, _, l1, l2, l3, l4, k4⟩
  · rintro ⟨l, v, l1, l2, l3, l4, l5⟩
    obtain ⟨k, k1, k2, k3, k4⟩ := hN.2 l v l1 l2 l3 l4
    refine ⟨k - 1600 * oth, by omega, by omega, ?_, ?_⟩
    · rw [show 1600 * oth + (k - 1600 * oth) = k by omega]; exact k3
    · rw [show 1600 * oth + (k - 1600 * oth) = k by omega, er]
      have k4 : hI s 18 k = v := k4
      rw [k4]
      exact l5
/-- behind 'holes', where there is none -/
theorem ho_td {s : am_HS} {oth n K : Nat} {W : Int} : ∀ j, (tdM (hoM s oth n W K)).1 j = (tdM s).1 j ∧ (tdM (hoM s oth n W K)).2.2.1 j = (tdM s).2.2.1 j ∧ (tdM (hoM s oth n W K)).2.2.2.1 j = (tdM s).2.2.2.1 j ∧ (tdM (hoM s oth n W K)).2.2.2.2 j = (tdM s).2.2.2.2 j := fun j => ⟨hoM_o (by omega), hoM_o (by omega), hoM_o (by omega), hoM_o (by omega)⟩
theorem edA_EdM {oth n : Nat} {tx : Nat → Int} {acc : List RU} {cf : Nat → Nat} {s : am_HS} (h : RuK oth n tx acc cf s) (hl : acc.length ≤ 12) {W : Int} (hcm : ∀ k, k < acc.length → cf (k + 1) ≤ cf acc.length) {r b : Nat} (hr : r < acc.length) : EdM (hoM s oth acc.length W (cf acc.length)) oth cf (cf (r + 1)) r b ↔ edA (tkT tx n) acc W r b := by
  obtain ⟨-, -, -, -, hN⟩ := h r _ (auN_get hr)
  have er : ∀ v, rsS (fun k => hI s 24 (12 * oth + k)) acc.length W v = rsA acc W v := fun v => rsS_congr h.nm
  have hc := hcm r hr
  unfold EdM edA
  constructor
  · rintro ⟨k, k1, k2, k3, k4⟩
    rw [hoM_o (by omega)] at k3
    rw [hoM_i hl ⟨by omega, by omega, k3⟩, er] at k4
    obtain ⟨l, l1, l2, l3, l4⟩ := hN.1 (1600 * oth + k) (by omega) (by omega) k3
    exact ⟨l, _, l1, l2, l3, l4, k4⟩
  · rintro ⟨l, v, l1, l2, l3, l4, l5⟩
    obtain ⟨k, k1, k2, k3, k4⟩ := hN.2 l v l1 l2 l3 l4
    have k3' : hI s 17 k = 1 := k3
    have k4' : hI s 18 k = v := k4
    refine ⟨k - 1600 * oth, by omega, by omega, ?_, ?_⟩
    · rw [show 1600 * oth + (k - 1600 * oth) = k by omega, hoM_o (by omega)]; exact k3
    · rw [show 1600 * oth + (k - 1600 * oth) = k by omega, hoM_i hl ⟨by omega, by omega, k3'⟩, er, k4']
      exact l5
theorem ho_val {oth n : Nat} {tx : Nat → Int} {acc : List RU} {cf : Nat → Nat} {s : am_HS} (h : RuK oth n tx acc cf s) (hl : acc.length ≤ 12) {W : Int} (hcm : ∀ k, k < acc.length → cf (k + 1) ≤ cf acc.length) (hno : ∀ r, r < acc.length → ¬ hoA (tkT tx n) acc W r) {r k : Nat} (hr : r < acc.length) (k1 : cf r ≤ k) (k2 : k < cf (r + 1)) (k3 : hI s 17 (1600 * oth + k) = 1) : hI (hoM s oth acc.length W (cf acc.length)) 18 (1600 * oth + k) = rsA acc W (hI s 18 (1600 * oth + k)) ∧ ((0 ≤ rsA acc W (hI s 18 (1600 * oth + k)) ∧ rsA acc W (hI s 18 (1600 * oth + k)) < (acc.length : Int)) ∨ (100 ≤ rsA acc W (hI s 18 (1600 * oth + k)) ∧ rsA acc W (hI s 18 (1600 * oth + k)) < 110)) := by
  have er : ∀ v, rsS (fun k => hI s 24 (12 * oth + k)) acc.length W v = rsA acc W v := fun v => rsS_congr h.nm
  have hc := hcm r hr
  refine ⟨by rw [hoM_i hl ⟨by omega, by omega, k3⟩, er], ?_⟩
  have hn : ¬ rsA acc W (hI s 18 (1600 * oth + k)) < 0 := fun q => (fun g => hno r hr ((hl_ho h hr).mp g)) ⟨k, k1, k2, k3, by rw [er]; exact q⟩
  rcases rsS_r (nmA acc) hl W (hI s 18 (1600 * oth + k)) with a | a | a
  · exfalso; exact hn (by show rsS _ _ _ _ < 0; rw [a]; decide)
  · exact Or.inl a
  · exact Or.inr ⟨a.1, a.2.1⟩
theorem tgtM_r {n : Nat} (hn : n ≤ 12) {x : Int} (h : (0 ≤ x ∧ x < (n : Int)) ∨ (100 ≤ x ∧ x < 110)) : tgtM x < n ∨ (12 ≤ tgtM x ∧ tgtM x < 22) := by
  unfold tgtM
  rcases h with h | h
  · rw [if_pos (by omega)]; omega
  · rw [if_neg (by omega)]; omega
theorem edA_r {T : Nat → Int × Int} {acc : List RU} {W : Int} (hl : acc.length ≤ 12) (hno : ∀ r, r < acc.length → ¬ hoA T acc W r) {r b : Nat} (hr : r < acc.length) (h : edA T acc W r b) : b < acc.length ∨ (12 ≤ b ∧ b < 22) := by
  obtain ⟨l, v, l1, l2, l3, l4, l5⟩ := h
  have hn : ¬ rsA acc W v < 0 := fun q => hno r hr ⟨l, v, l1, l2, l3, l4, q⟩
  rw [← l5]
  refine tgtM_r hl ?_
  rcases rsS_r (nmA acc) hl W v with a | a | a
  · exfalso; exact hn (by show rsS _ _ _ _ < 0; rw [a]; decide)
  · exact Or.inl a
  · exact Or.inr ⟨a.1, a.2.1⟩
theorem BkS_of {oth n : Nat} {tx : Nat → Int} {acc : List RU} {cf : Nat → Nat} {s : am_HS} (h : RuK oth n tx acc cf s) (hl : acc.length ≤ 12) {W : Int} (hno : ∀ r, r < acc.length → ¬ hoA (tkT tx n) acc W r) (hρ : ∃ ρ : Nat → Nat, (∀ r, r < acc.length → ρ r < 12) ∧ ∀ r r', r < acc.length → r' < acc.length → edA (tkT tx n) acc W r r' → ρ r' < ρ r) : BkS acc.length (evA acc W) (edA (tkT tx n) acc W) := by
  refine ⟨hl, fun r hr env env' he => ?_, fun r hr env he => ?_, fun r b hr hb => edA_r hl hno hr hb, hρ⟩
  · obtain ⟨-, -, -, hD, hN⟩ := h r _ (auN_get hr)
    refine NdP_dep hD (fun k k1 k2 k3 => ?_)
    obtain ⟨l, l1, l2, l3, l4⟩ := hN.1 k k1 k2 k3
    generalize (tdM s).2.1 k = v at *
    have hed : edA (tkT tx n) acc W r (tgtM (rsA acc W v)) := ⟨l, v, l1, l2, l3, l4, rfl⟩
    have hr2 := edA_r hl hno hr hed
    have hn : ¬ rsA acc W v < 0 := fun q => hno r hr ⟨l, v, l1, l2, l3, l4, q⟩
    show env (tgE (rsA acc W v)) = env' (tgE (rsA acc W v))
    refine he _ ?_
    have hrr : rsA acc W v = -1 ∨ (0 ≤ rsA acc W v ∧ rsA acc W v < (acc.length : Int)) ∨ (100 ≤ rsA acc W v ∧ rsA acc W v < 110 ∧ rsA acc W v - 100 < W) := rsS_r (nmA acc) hl W v
    unfold tgtM at hed hr2
    unfold tgE
    generalize rsA acc W v = x at *
    by_cases q : x < 100
    · rw [if_pos q] at hed hr2
      rw [if_pos q]
      exact Or.inr ⟨x.toNat, by omega, hed, rfl⟩
    · rw [if_neg q] at hed hr2
      rw [if_neg q]
      refine Or.inl ⟨by omega, ?_⟩
      rw [show 12 + (x - 100).toNat = (12 + x - 100).toNat by omega]
      exact hed
  · obtain ⟨-, -, -, hD, -⟩ := h r _ (auN_get hr)
    exact NdP_ok (fun v => he _) hD
theorem MB_of {oth n : Nat} {tx : Nat → Int} {acc : List RU} {cf : Nat → Nat} {s : am_HS} (hR : RuI oth n tx acc cf s) (hlen : 0 < acc.length) (hoth : oth < 2) (hc16 : cf acc.length ≤ 1600) {W : Int} (hno : ∀ r, r < acc.length → ¬ hoA (tkT tx n) acc W r) (hρ : ∃ ρ : Nat → Nat, (∀ r, r < acc.length → ρ r < 12) ∧ ∀ r r', r < acc.length → r' < acc.length → edA (tkT tx n) acc W r r' → ρ r' < ρ r) : MB oth acc.length (nmA acc) (evA acc W) (edA (tkT tx n) acc W) (LsR (tkT tx n) acc) (hoM s oth acc.length W (cf acc.length)) := by
  obtain ⟨hK, hl, h23, hc0, hcf, h26, hls⟩ := hR
  have hcm := cf_mono hcf
  obtain ⟨ρ, r1, r2⟩ := hρ
  have hcl : ∀ k, k ≤ acc.length → cf k ≤ 1600 := by
    intro k hk
    rcases Nat.lt_or_ge k acc.length with q | q
    · have := hcm k q
      have := hcf k q
      omega
    · have : k = acc.length := by omega
      rw [this]; exact hc16
  refine ⟨hoth, hl, (hoM_o (by omega)).trans h23, fun r hr => (hoM_o (by omega)).trans (hK.nm r hr), by rw [hoM_o (by omega)]; exact hls, cf, ρ, hcf, hcl, fun k hk => (hoM_o (by omega)).trans (h26 hlen k hk), fun r hr => ⟨(hoM_o (by omega)).trans (hK r _ (auN_get hr)).2.1, ?_⟩, r1, ?_, fun r b hr => edA_EdM hK hl hcm hr⟩
  · obtain ⟨-, -, -, hD, hN⟩ := hK r _ (auN_get hr)
    have hcr := hcm r hr
    have hnd := NdP_up hD
    refine NdP_tie (res := rsA acc W) (t := tdM s) (fun j j1 j2 => ⟨(ho_td j).1, (ho_td j).2.1, fun j3 => ?_, fun j3 => ?_⟩) (fun j j1 j2 => ⟨(ho_td j).2.2.1, (ho_td j).2.2.2⟩) hnd
    · have j3 : ¬ hI s 17 j = 1 := j3
      exact hoM_o (fun q => j3 q.2.2.2)
    · have j3 : hI s 17 j = 1 := j3
      obtain ⟨k, rfl⟩ : ∃ k, j = 1600 * oth + k := ⟨j - 1600 * oth, by omega⟩
      obtain ⟨v1, v2⟩ := ho_val hK hl hcm hno hr (by omega) (by omega) j3
      refine ⟨v1, ?_⟩
      show (100 ≤ rsA acc W (hI s 18 (1600 * oth + k)) ∧ _) ∨ (0 ≤ rsA acc W (hI s 18 (1600 * oth + k)) ∧ _)
      rcases v2 with v2 | v2
      · refine Or.inr ⟨v2.1, by show rsA acc W (hI s 18 (1600 * oth + k)) < 12; omega, ?_⟩
        obtain ⟨l, l1, l2, l3, l4⟩ := hN.1 (1600 * oth + k) (by omega) (by omega) j3
        have l3' : tkT tx n l = (2, hI s 18 (1600 * oth + k)) := l3
        have hed : edA (tkT tx n) acc W r (rsA acc W (hI s 18 (1600 * oth + k))).toNat := ⟨l, _, l1, l2, l3', l4, by unfold tgtM; rw [if_pos (by omega)]⟩
        have hlt : (rsA acc W (hI s 18 (1600 * oth + k))).toNat < acc.length := by omega
        exact ⟨hlt, r2 r _ hr hlt hed⟩
      · exact Or.inl v2
  · intro r k hr k1 k2 k3
    rw [hoM_o (by omega)] at k3
    obtain ⟨v1, v2⟩ := ho_val hK hl hcm hno hr k1 k2 k3
    rw [v1]
    rcases v2 with v2 | v2
    · exact Or.inl ⟨v2.1, by omega⟩
    · exact Or.inr v2

