/-! BITS, and what is reached -/
theorem bt_n (a : Nat) : Int32.ofInt (a : Int) = nI a := Int32.ofInt_eq_ofNat
theorem bt_ti {n : Nat} (h : n < 2 ^ 31) : (nI n).toInt = (n : Int) := nI_toInt h
theorem bt_sl : ∀ n, n < 32 → ((nI n &&& 31).toBitVec.smod 32).toNat = n := by decide +kernel
theorem bt_shr {a m : Nat} (ha : a < 2 ^ 31) (hm : m < 32) : (Int32.ofInt (a : Int) >>> (Int32.ofInt (m : Int) &&& 31)).toInt = ((a / 2 ^ m : Nat) : Int) := by
  rw [bt_n, bt_n, pk_shrN ha (nI m &&& 31) m (bt_sl m hm)]
  exact bt_ti (Nat.lt_of_le_of_lt (Nat.div_le_self _ _) ha)
theorem bt_and {a b : Nat} (ha : a < 2 ^ 31) : (Int32.ofInt (a : Int) &&& Int32.ofInt (b : Int)).toInt = ((a &&& b : Nat) : Int) := by
  rw [bt_n, bt_n]
  have : nI a &&& nI b = nI (a &&& b) := by
    unfold nI
    apply Int32.toBitVec_inj.mp
    simp [Int32.toBitVec_and]
  rw [this]
  exact bt_ti (Nat.lt_of_le_of_lt Nat.and_le_left ha)
theorem bt_or {a b : Nat} (ha : a < 2 ^ 31) (hb : b < 2 ^ 31) : (Int32.ofInt (a : Int) ||| Int32.ofInt (b : Int)).toInt = ((a ||| b : Nat) : Int) := by
  rw [bt_n, bt_n]
  have : nI a ||| nI b = nI (a ||| b) := by
    unfold nI
    apply Int32.toBitVec_inj.mp
    simp [Int32.toBitVec_or]
  rw [this]
  exact bt_ti (Nat.or_lt_two_pow ha hb)
theorem bt_shl1 {m : Nat} (hm : m < 31) : (Int32.ofInt 1 <<< (Int32.ofInt (m : Int) &&& 31)).toInt = ((2 ^ m : Nat) : Int) := by
  rw [bt_n, show Int32.ofInt 1 = nI 1 from rfl]
  have h1 : 1 * 2 ^ m < 2 ^ 32 := by
    have := Nat.pow_lt_pow_right (a := 2) (by decide) (show m < 32 by omega)
    omega
  rw [pk_shlN (nI m &&& 31) m (bt_sl m (by omega)) h1, Nat.one_mul]
  exact bt_ti (Nat.pow_lt_pow_right (by decide) hm)
theorem bt_bit {a m : Nat} (ha : a < 2 ^ 31) (hm : m < 32) : (Int32.ofInt ((a / 2 ^ m : Nat) : Int) &&& Int32.ofInt 1).toInt = if a.testBit m = true then 1 else 0 := by
  have h1 : a / 2 ^ m < 2 ^ 31 := Nat.lt_of_le_of_lt (Nat.div_le_self _ _) ha
  have := bt_and (b := 1) h1
  rw [show ((1 : Nat) : Int) = 1 from rfl] at this
  rw [this]
  unfold Nat.testBit
  rw [Nat.shiftRight_eq_div_pow, Nat.and_comm]
  have h2 := Nat.and_one_is_mod (a / 2 ^ m)
  rw [Nat.and_comm] at h2
  rw [h2]
  rcases Nat.mod_two_eq_zero_or_one (a / 2 ^ m) with h | h <;> rw [h] <;> simp
/-- reached from k: by edges, over nodes below M alone -/
def rch (E : Nat → Nat → Prop) : Nat → Nat → Nat → Prop
  | 0, k, b => E k b
  | M + 1, k, b => rch E M k b ∨ (rch E M k M ∧ rch E M M b)
theorem rch_up {E : Nat → Nat → Prop} {M k b : Nat} (h : E k b) : rch E M k b := by
  induction M with
  | zero => exact h
  | succ M ih => exact Or.inl ih
theorem rch_tr {E : Nat → Nat → Prop} : ∀ (M k j b : Nat), j < M → rch E M k j → rch E M j b → rch E M k b
  | 0, _, _, _, h, _, _ => absurd h (Nat.not_lt_zero _)
  | M + 1, k, j, b, h, h1, h2 => by
    by_cases e : j = M
    · subst e
      have g1 : rch E j k j := h1.elim id And.left
      have g2 : rch E j j b := h2.elim id And.right
      exact Or.inr ⟨g1, g2⟩
    · have hj : j < M := by omega
      rcases h1 with h1 | ⟨h1, h3⟩
      · rcases h2 with h2 | ⟨h2, h4⟩
        · exact Or.inl (rch_tr M k j b hj h1 h2)
        · exact Or.inr ⟨rch_tr M k j M hj h1 h2, h4⟩
      · rcases h2 with h2 | ⟨h2, h4⟩
        · exact Or.inr ⟨h1, rch_tr M M j b hj h3 h2⟩
        · exact Or.inr ⟨h1, h4⟩
theorem rch_in {E : Nat → Nat → Prop} {S : Nat → Prop} (hs : ∀ j b, S j → E j b → S b) : ∀ (M j b : Nat), S j → rch E M j b → S b
  | 0, j, b, h, h1 => hs j b h h1
  | M + 1, j, b, h, h1 => by
    rcases h1 with h1 | ⟨h1, h2⟩
    · exact rch_in hs M j b h h1
    · exact rch_in hs M M b (rch_in hs M j M h h1) h2
theorem rch_from {E : Nat → Nat → Prop} {S : Nat → Prop} {k : Nat} (h0 : ∀ b, E k b → S b) (hs : ∀ j b, S j → E j b → S b) : ∀ (M b : Nat), rch E M k b → S b
  | 0, b, h => h0 b h
  | M + 1, b, h => by
    rcases h with h | ⟨h1, h2⟩
    · exact rch_from h0 hs M b h
    · exact rch_in hs M M b (rch_from h0 hs M M h1) h2
theorem rch_congr {E F : Nat → Nat → Prop} (h : ∀ k b, E k b ↔ F k b) : ∀ (M k b : Nat), rch E M k b ↔ rch F M k b
  | 0, k, b => h k b
  | M + 1, k, b => by
    unfold rch
    rw [rch_congr h M k b, rch_congr h M k M, rch_congr h M M b]
/-- sets as numbers -/
def hasB (a b : Nat) : Prop := a.testBit b = true
theorem or_bit (a b i : Nat) : hasB (a ||| b) i ↔ hasB a i ∨ hasB b i := by unfold hasB; rw [Nat.testBit_or, Bool.or_eq_true]
theorem pow_bit (m i : Nat) : hasB (2 ^ m) i ↔ i = m := by unfold hasB; rw [Nat.testBit_two_pow]; simp [eq_comm]
theorem or_lt22 {a b : Nat} (ha : a < 4194304) (hb : b < 4194304) : a ||| b < 4194304 := Nat.or_lt_two_pow (n := 22) ha hb
theorem pow_lt22 {m : Nat} (h : m < 22) : 2 ^ m < 4194304 := show 2 ^ m < 2 ^ 22 from Nat.pow_lt_pow_right (by decide) h
/-- the reference's row of sets -/
def hs28 (σ : am_HS) (G : Nat → Nat) : am_HS := putA σ 28 (fun b => if b < 22 then nI (G b) else σ.1 28 b)
def upN (G : Nat → Nat) (k a : Nat) : Nat → Nat := fun j => if j = k then a else G j
theorem upN_e {G : Nat → Nat} {k a : Nat} : upN G k a k = a := by simp [upN]
theorem upN_n {G : Nat → Nat} {k a j : Nat} (h : j ≠ k) : upN G k a j = G j := by simp [upN, h]
theorem hs28_get {σ : am_HS} {G : Nat → Nat} {k : Nat} (hk : k < 22) (hG : G k < 4194304) : hI (hs28 σ G) 28 k = (G k : Int) := by
  unfold hs28
  rw [hI_putA_s, if_pos hk]
  exact nI_toInt (by omega)
theorem hs28_put {σ : am_HS} {G : Nat → Nat} {k a : Nat} (hk : k < 22) : uI (hs28 σ G) 28 k (a : Int) = hs28 σ (upN G k a) := by
  unfold hs28
  rw [uI_putA]
  congr 1
  funext b
  unfold upG upN
  by_cases h : b = k
  · subst h; rw [if_pos rfl, if_pos hk, if_pos rfl]; exact bt_n a
  · rw [if_neg h, if_neg h]
theorem hs28_o {σ : am_HS} {G : Nat → Nat} {o k : Nat} (h : o ≠ 28) : hI (hs28 σ G) o k = hI σ o k := hI_putA h
theorem hs28_0 (σ : am_HS) : fillI σ 28 22 0 = hs28 σ (fun _ => 0) := by
  unfold fillI hs28 putA
  refine Prod.ext ?_ rfl
  funext a b
  dsimp only
  by_cases h : a = 28
  · subst h
    by_cases h2 : b < 22
    · rw [if_pos ⟨rfl, h2⟩, if_pos rfl, if_pos h2]; rfl
    · rw [if_neg (by omega), if_pos rfl, if_neg h2]
  · rw [if_neg (by omega), if_neg h]
/-- what a NAME's number points at -/
def tgtM (num : Int) : Nat := if num < 100 then num.toNat else (12 + num - 100).toNat
/-- the edges: a rule to what its nodes name, a work to the rule that it needs -/
def EdM (σ : am_HS) (set : Nat) (fr : Nat → Nat) (J r b : Nat) : Prop := ∃ k, fr r ≤ k ∧ k < J ∧ hI σ 17 (1600 * set + k) = 1 ∧ tgtM (hI σ 18 (1600 * set + k)) = b
def EM (σ : am_HS) (set n W : Nat) (fr : Nat → Nat) (k b : Nat) : Prop := (k < n ∧ EdM σ set fr (fr (k + 1)) k b) ∨ (∃ w, w < W ∧ k = 12 + w ∧ 0 ≤ hI σ 7 w ∧ hI σ 7 w < (n : Int) ∧ b = (hI σ 7 w).toNat)
theorem rch_self {E : Nat → Nat → Prop} {m b : Nat} : rch E (m + 1) m b ↔ rch E m m b := ⟨fun h => Or.elim h id And.right, fun h => Or.inl h⟩
theorem rch_succ {E : Nat → Nat → Prop} {m k b : Nat} : rch E (m + 1) k b ↔ rch E m k b ∨ (rch E m k m ∧ rch E m m b) := Iff.rfl
