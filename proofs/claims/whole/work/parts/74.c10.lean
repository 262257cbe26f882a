/-! THE CLASS: parting a text into words -/
def tnS (σ : am_HS) (i : Nat) : am_HS := uI (uI (uI σ 4 6 (i : Int)) 4 7 (hI σ 10 i)) 4 8 (hI σ 11 i)
def flS (σ : am_HS) (i : Nat) : am_HS := if hI σ 4 9 < 0 then uI σ 4 9 (hI σ 12 i) else σ
/-- a word and how its rows hold it -/
def knC (t : Int × Int) (kc nc : Int) : Prop := (t.1 = 1 ∧ kc = 1000 ∧ nc = t.2) ∨ (t.1 = 2 ∧ kc = 1001 ∧ nc = t.2) ∨ (t.1 = 3 ∧ kc = t.2 ∧ sgS kc) ∨ (t.1 = 4 ∧ kc ≠ 1000 ∧ kc ≠ 1001 ∧ kc ≠ 1003 ∧ ¬ sgS kc) ∨ (t.1 = 0 ∧ kc = 1003)
def FrT (σ s : am_HS) : Prop := s.2 = σ.2 ∧ ∀ o j, ¬ (10 ≤ o ∧ o ≤ 12) → hI s o j = hI σ o j
def toE (tx : Nat → Int) (n a : Nat) : Nat := if clS (tx a) = 0 then a + 1 else rnS tx (clS (tx a)) (n - a) a
theorem tok_at {f tx : Nat → Int} (htx : ∀ j, tx j = f j % 256) (hb : ∀ j, -128 ≤ f j ∧ f j ≤ 127) {n p a e : Nat} (hs : skS tx (n - p) p = a) (ha : a < n) (hsp : f a ≠ 32) (he : e = toE tx n a) {kc : Int} (hkc : kc = if 4 < e - a then 1002 else kdC (f a)) : (tkS tx n p).1 ≠ 0 ∧ (tkS tx n p).2.2.1 = a ∧ (tkS tx n p).2.2.2 = e ∧ a < e ∧ e ≤ n ∧ knC ((tkS tx n p).1, (tkS tx n p).2.1) kc (mdC f kc a (e - a)) := by
  have hk := kd_r (hb a)
  have hba := hb a
  rw [← htx] at hk
  have hta := htx a
  by_cases h0 : clS (tx a) = 0
  · have he' : e = a + 1 := by rw [he]; unfold toE; rw [if_pos h0]
    have hkc' : kc = kdC (f a) := by rw [hkc, if_neg (by omega)]
    unfold tkS
    rw [hs, if_neg (by omega), if_pos h0]
    dsimp only
    by_cases hg : 40 ≤ tx a ∧ tx a ≤ 45 ∨ tx a = 47 ∨ tx a = 59 ∨ tx a = 61
    · rw [if_pos hg]
      refine ⟨by decide, rfl, he'.symm, by omega, by omega, Or.inr (Or.inr (Or.inl ⟨rfl, ?_, ?_⟩))⟩
      · show kc = tx a
        omega
      · show sgS kc
        unfold sgS
        omega
    · rw [if_neg hg]
      refine ⟨by decide, rfl, he'.symm, by omega, by omega, Or.inr (Or.inr (Or.inr (Or.inl ⟨rfl, by omega, by omega, by omega, ?_⟩)))⟩
      unfold sgS
      omega
  · have he' : e = rnS tx (clS (tx a)) (n - a) a := by rw [he]; unfold toE; rw [if_neg h0]
    have hr := rnS_r tx (clS (tx a)) (n - a) a
    have h1 : a + 1 ≤ rnS tx (clS (tx a)) (n - a) a := by
      obtain ⟨m, hm⟩ : ∃ m, n - a = m + 1 := ⟨n - a - 1, by omega⟩
      rw [hm]
      unfold rnS
      rw [if_pos rfl]
      have := rnS_r tx (clS (tx a)) m (a + 1)
      omega
    have hcl : ∀ i, i < e - a → clS (tx (a + i)) = clS (tx a) := fun i hi => rnS_cl (n - a) a (a + i) (by omega) (by rw [← he']; omega)
    unfold tkS
    rw [hs, if_neg (by omega), if_neg h0, ← he']
    rw [← he'] at hr h1
    by_cases h4 : a + 4 < e
    · rw [if_pos h4]
      rw [if_pos (by omega)] at hkc
      refine ⟨(by show (4 : Int) ≠ 0; decide), rfl, rfl, by omega, by omega, Or.inr (Or.inr (Or.inr (Or.inl ⟨rfl, by omega, by omega, by omega, ?_⟩)))⟩
      unfold sgS
      omega
    · rw [if_neg h4]
      rw [if_neg (by omega)] at hkc
      have hfe : ∀ i, i < e - a → f (a + i) = tx (a + i) := fun i hi => by
        have q := kd_r (hb (a + i))
        rw [← htx, hcl i hi] at q
        have := htx (a + i)
        omega
      rcases hk with ⟨k1, k2, _⟩ | ⟨k1, k2, _⟩ | ⟨k1, _⟩
      · rw [k1]
        refine ⟨(by show (1 : Int) ≠ 0; decide), rfl, rfl, by omega, by omega, Or.inl ⟨rfl, by omega, ?_⟩⟩
        exact mdC_e (Or.inl ⟨rfl, by omega⟩) _ (by omega) (fun i hi => ⟨by rw [hcl i hi, k1], hfe i hi⟩)
      · rw [k1]
        refine ⟨(by show (2 : Int) ≠ 0; decide), rfl, rfl, by omega, by omega, Or.inr (Or.inl ⟨rfl, by omega, ?_⟩)⟩
        exact mdC_e (Or.inr ⟨rfl, by omega⟩) _ (by omega) (fun i hi => ⟨by rw [hcl i hi, k1], hfe i hi⟩)
      · exact absurd k1 h0
theorem cc1_take {D : Nat} (hD : 2 ≤ D) (σ : am_HS) {b : Nat} (hf : σ.2.2 = cH b) (i : Nat) (hi : i < 600) (ha : hI σ 4 6 = (i : Int)) (due : Int) : am_Do lc D mX1_take σ [vR (some 4), vI due] (qV fun s => s = if hI σ 4 9 < 0 ∧ hI σ 4 7 = due then tnS σ (i + 1) else flS σ i) := by
  obtain ⟨d, rfl⟩ : ∃ d, D = d + 1 := ⟨D - 1, by omega⟩
  refine am_enter rfl rfl (Nat.le_of_ble_eq_true rfl) ?_
  refine g_aload_n dX1_take_0 rfl ?_
  refine g_getI dX1_take_1 tf_1_32 rfl rfl ?_
  refine g_if_ge (tgt := 28) dX1_take_4 (by decide) (fun c4 => ?_) (fun c4 => ?_)
  · refine g_aload_n dX1_take_28 rfl ?_
    refine g_callvV dX1_take_29 tm_1_62 rfl ⟨rfl, rfl⟩ rfl (Nat.le_of_ble_eq_true rfl) (cc1_fail (by omega) σ hf i (by omega) ha) (fun s29 h29 => ?_)
    obtain rfl := h29
    refine g_return dX1_take_32 rfl ⟨rfl, ?_⟩
    first
      | (rw [if_pos ⟨by omega, by omega⟩]; rfl)
      | (rw [if_neg (by omega)]; rfl)
  · refine g_aload_n dX1_take_7 rfl ?_
    refine g_getI dX1_take_8 tf_1_49 rfl rfl ?_
    refine g_iload_n dX1_take_11 rfl ?_
    refine g_icmp_ne (tgt := 28) dX1_take_12 (by decide) (fun c12 => ?_) (fun c12 => ?_)
    · refine g_aload_n dX1_take_28 rfl ?_
      refine g_callvV dX1_take_29 tm_1_62 rfl ⟨rfl, rfl⟩ rfl (Nat.le_of_ble_eq_true rfl) (cc1_fail (by omega) σ hf i (by omega) ha) (fun s29 h29 => ?_)
      obtain rfl := h29
      refine g_return dX1_take_32 rfl ⟨rfl, ?_⟩
      first
        | (rw [if_pos ⟨by omega, by omega⟩]; rfl)
        | (rw [if_neg (by omega)]; rfl)
    · refine g_aload_n dX1_take_15 rfl ?_
      refine g_aload_n dX1_take_16 rfl ?_
      refine g_getI dX1_take_17 tf_1_79 rfl rfl ?_
      refine g_iconst dX1_take_20 ⟨by decide, by decide⟩ ?_
      refine g_iadd dX1_take_21 rfl ⟨by omega, by omega⟩ ?_
      rw [ha, show (i : Int) + 1 = ((i + 1 : Nat) : Int) from by omega]
      refine g_callvV dX1_take_22 tm_1_46 rfl ⟨rfl, rfl⟩ rfl (Nat.le_of_ble_eq_true rfl) (cc1_turnTo (by omega) σ hf (i + 1) (by omega)) (fun s22 h22 => ?_)
      obtain rfl := h22
      refine g_goto (tgt := 32) dX1_take_25 (by decide) ?_
      refine g_return dX1_take_32 rfl ⟨rfl, ?_⟩
      first
        | (rw [if_pos ⟨by omega, by omega⟩]; rfl)
        | (rw [if_neg (by omega)]; rfl)

