section
/-! BOTH: at the beginning -/
theorem SR_0 {τ σ : am_HS} (hf : τ.2.2 = mH) (hg : σ.2.2 = cH 0) (t0 : ∀ j, j ≤ 7 ∨ j = 23 ∨ j = 42 → hI τ 0 j = 0) (t1 : ∀ o k, 1 ≤ o → o ≤ 27 → o ≠ 2 → o ≠ 7 → o ≠ 13 → o ≠ 14 → hI τ o k = 0) (t2 : ∀ p : Nat, hI τ 2 p = if p < 6 then (p : Int) else 0) (t7 : ∀ k : Nat, hI τ 7 k = if k < 10 then -1 else 0) (t13 : ∀ k : Nat, hI τ 13 k = if k < 180 then -1 else 0) (t14 : ∀ k : Nat, hI τ 14 k = if k < 360 then -1 else 0) (s0 : ∀ j, 7 ≤ j → j ≤ 13 → hI σ 0 j = 0) (s4 : hI σ 4 1 = 0) (s8 : ∀ k, k < 8 → hI σ 8 k = 0) (s9 : ∀ j, hI σ 9 j = 0) (s60 : hI σ 6 0 = 0) (s61 : hI σ 6 1 = 0) (sw : ∀ w, w < 10 → ∀ j : Nat, j < 6 → hI σ (37 + w) j = if j = 4 then -1 else 0) (sl : ∀ k, k < 60 → ∀ j, j < 3 → hI σ (47 + 4 * k) j = 0) (sb : ∀ k, k < 60 → -1 ≤ hI σ (47 + 4 * k) 3 ∧ hI σ (47 + 4 * k) 3 ≤ 5) (st : ∀ k, k < 60 → ∀ j, j < 3 → hI σ (48 + 4 * k) j = 0) (sm : ∀ k, k < 60 → ∀ j, j < 3 → hI σ (49 + 4 * k) j = -1) (sp : ∀ k, k < 60 → ∀ j, j < 6 → hI σ (50 + 4 * k) j = -1) (s56 : hI σ 5 6 = 0) (s13 : ∀ a, a < 22 → hL σ 13 a = 0) : SR 0 τ σ := by
  refine ⟨fun o j o' j' hc => ?_, ⟨hf, fun o k => ?_, ?_, fun k hk => ?_⟩, ?_, 0, 0, 0, fun _ => 0, fun _ _ => none, fun _ _ => False, False, 0, 0, ?_⟩
  · rcases hc with ⟨rfl, q1, q2, rfl, rfl⟩ | ⟨rfl, rfl, rfl, rfl⟩ | ⟨rfl, q1, rfl, rfl⟩ | ⟨q0, q1, q2, rfl, q3⟩ | ⟨rfl, q1, rfl, rfl⟩ | ⟨rfl, q1, rfl, rfl⟩ | ⟨rfl, q1, rfl, rfl⟩ | ⟨rfl, q1, rfl, rfl⟩ | ⟨rfl, q1, rfl, rfl⟩ | ⟨rfl, q1, rfl, rfl⟩
    · rw [t0 j (by omega), s0 (j + 6) (by omega) (by omega)]
    · rw [t0 23 (by omega), s4]
    · rw [t1 1 _ (by omega) (by omega) (by omega) (by omega) (by omega) (by omega), s8 _ q1]
    · rw [sw j q2 j' (by omega)]
      by_cases z : o = 7
      · rw [z, t7, if_pos q2, if_pos (by omega)]
      · rw [t1 o j (by omega) (by omega) (by omega) z (by omega) (by omega), if_neg (by omega)]
    · rw [t1 9 j (by omega) (by omega) (by omega) (by omega) (by omega) (by omega), sl j q1 0 (by omega)]
    · rw [t1 10 j (by omega) (by omega) (by omega) (by omega) (by omega) (by omega), sl j q1 2 (by omega)]
    · rw [t1 15 j (by omega) (by omega) (by omega) (by omega) (by omega) (by omega), sl j q1 1 (by omega)]
    · rw [t13, if_pos q1, sm (j / 3) (by omega) (j % 3) (by omega)]
    · rw [t1 11 j (by omega) (by omega) (by omega) (by omega) (by omega) (by omega), st (j / 3) (by omega) (j % 3) (by omega)]
    · rw [t14, if_pos q1, sp (j / 6) (by omega) (j % 6) (by omega)]
  · by_cases o2 : o = 2
    · rw [o2, t2]
      show (0 : Int) ≤ _ ∧ _ ≤ (5 : Int)
      split <;> omega
    by_cases o7 : o = 7
    · rw [o7, t7]
      show (-1 : Int) ≤ _ ∧ _ ≤ (11 : Int)
      split <;> omega
    by_cases o13 : o = 13
    · rw [o13, t13]
      show (-1 : Int) ≤ _ ∧ _ ≤ (20 : Int)
      split <;> omega
    by_cases o14 : o = 14
    · rw [o14, t14]
      show (-1 : Int) ≤ _ ∧ _ ≤ (20 : Int)
      split <;> omega
    by_cases r : 1 ≤ o ∧ o ≤ 27
    · rw [t1 o k r.1 r.2 o2 o7 o13 o14]
      unfold bl bh
      constructor <;> split <;> decide
    · have r1 := hI_r τ o k
      unfold rI at r1
      have e1 : bl o = -2147483648 := by
        unfold bl
        split
        all_goals first | rfl | (exfalso; omega)
      have e2 : bh o = 2147483647 := by
        unfold bh
        split
        all_goals first | rfl | (exfalso; omega)
      rw [e1, e2]
      exact r1
  · unfold SGb
    rw [t0 1 (by omega), t0 2 (by omega), t0 3 (by omega), t0 4 (by omega), t0 5 (by omega), t0 6 (by omega), t0 7 (by omega), t0 23 (by omega)]
    exact ⟨fun k _ => by rw [t1 1 k (by omega) (by omega) (by omega) (by omega) (by omega) (by omega)]; decide, fun k => by rw [t1 10 k (by omega) (by omega) (by omega) (by omega) (by omega) (by omega)]; decide, by decide, by decide, by decide, by decide, by decide, by decide, by decide, by decide⟩
  · have m : ∀ t, t < 3 → hI τ 13 (3 * k + t) < 0 := fun t ht => by rw [t13, if_pos (by omega)]; decide
    have pp : ∀ q, q < 6 → hI τ 14 (6 * k + q) < 0 := fun q hq => by rw [t14, if_pos (by omega)]; decide
    have e10 : hI τ 10 k = 0 := t1 10 k (by omega) (by omega) (by omega) (by omega) (by omega) (by omega)
    refine ⟨fun _ => m, fun _ => pp, fun _ => ⟨m 1 (by decide), m 2 (by decide)⟩, fun _ => ⟨by rw [e10]; decide, fun t ht => ⟨fun y => absurd (m t ht) (by omega), fun y => ?_⟩⟩, fun _ => ⟨e10, m, pp⟩⟩
    rw [e10] at y
    omega
  · refine ⟨sb, fun j => ?_, fun p hp => ?_, fun p hp _ => ?_, fun k hk y => ?_⟩
    · rw [s9, t1 16 j (by omega) (by omega) (by omega) (by omega) (by omega) (by omega)]
      exact ⟨by decide, by decide, by decide⟩
    · rw [t0 1 (by omega)] at hp
      omega
    · rw [t2, if_pos hp]
    · rw [t1 3 _ (by omega) (by omega) (by omega) (by omega) (by omega) (by omega)] at y
      exact absurd y (by decide)
  · refine ⟨t0 42 (by omega), ?_, hg, by decide, ?_, ?_, t0 1 (by omega), t0 2 (by omega), ?_, fun r a hr => absurd hr (Nat.not_lt_zero r), ?_, fun w hw => ?_⟩
    · refine ⟨by decide, by decide, t1 23 0 (by omega) (by omega) (by omega) (by omega) (by omega) (by omega), fun r hr => absurd hr (Nat.not_lt_zero r), ?_, fun _ => 0, fun _ => 0, fun k hk => absurd hk (Nat.not_lt_zero k), fun _ _ => Nat.zero_le _, fun k hk => ?_, fun r hr => absurd hr (Nat.not_lt_zero r), fun r hr => absurd hr (Nat.not_lt_zero r), fun r k hr => absurd hr (Nat.not_lt_zero r), fun r b hr => absurd hr (Nat.not_lt_zero r)⟩
      · rw [t1 27 0 (by omega) (by omega) (by omega) (by omega) (by omega) (by omega)]
        exact ⟨fun y => absurd y (by decide), fun y => y.elim⟩
      · rw [t1 26 _ (by omega) (by omega) (by omega) (by omega) (by omega) (by omega)]
        rfl
    · refine ⟨by decide, by decide, s60, fun r hr => absurd hr (Nat.not_lt_zero r), ⟨Or.inl s61, ?_⟩, fun r hr => absurd hr (Nat.not_lt_zero r), ⟨fun r hr => absurd hr (Nat.not_lt_zero r), fun i hi => absurd hi (Nat.not_lt_zero i)⟩, fun r hr => absurd hr (Nat.not_lt_zero r), fun _ => 0, fun k hk => absurd hk (Nat.not_lt_zero k)⟩
      rw [show (6 + 0) = 6 from rfl, s61]
      exact ⟨fun y => absurd rfl y, fun y => y.elim⟩
    · exact ⟨by decide, fun r hr => absurd hr (Nat.not_lt_zero r), fun r hr => absurd hr (Nat.not_lt_zero r), fun r b hr => absurd hr (Nat.not_lt_zero r), fun _ => 0, fun r hr => absurd hr (Nat.not_lt_zero r), fun r r' hr => absurd hr (Nat.not_lt_zero r)⟩
    · exact ⟨⟨fun _ => none, fun a ha => ⟨trivial, s13 a ha⟩⟩, 0, s56, by decide⟩
    · rintro ⟨k, _, q⟩
      refine rch_from (E := EdW (fun _ _ => False) 0 0 (fun w => hI τ 7 w)) (k := k) (S := fun _ => False) (fun b e => ?_) (fun j b y _ => y) 22 k q
      rcases e with ⟨a, _⟩ | ⟨w, a, _⟩
      · exact Nat.not_lt_zero _ a
      · exact Nat.not_lt_zero _ a
    · rw [t7, if_pos hw]
      exact ⟨by decide, fun _ => rfl⟩
end
