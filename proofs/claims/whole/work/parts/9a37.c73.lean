section
/-! BOTH: range -/
def TVx (mo : Nat → Nat) (t : List Nat) (tk tk' : Nat → Int) : Prop := (∀ a, a ∉ t → tk' a = tk a) ∧ ∀ a, a ∈ t → ∃ k : Nat, k ≤ mo a ∧ tk' a = (k : Int)
theorem goF_P {mo : Nat → Nat} {f : (Nat → Int) → Vl} (hmo : ∀ w, mo w ≤ 20) (hv : ∀ tk : Nat → Int, (∀ w, tk w ≤ 20) → vok (f tk)) : ∀ (t : List Nat) (tk : Nat → Int) (a : Acc) (S : Vl → Prop), (∀ w, tk w ≤ 20) → AccP a S → (∀ x, S x → vok x) → AccP (goF mo f t tk a) (fun v => S v ∨ ∃ tk', TVx mo t tk tk' ∧ v = f tk') := by
  have hok : ∀ (t : List Nat) (tk tk' : Nat → Int), (∀ w, tk w ≤ 20) → TVx mo t tk tk' → ∀ w, tk' w ≤ 20 := fun t tk tk' h1 h2 w => by
    by_cases z : w ∈ t
    · obtain ⟨k, k1, k2⟩ := h2.2 w z
      have := hmo w
      omega
    · rw [h2.1 w z]
      exact h1 w
  intro t
  induction t with
  | nil =>
    intro tk a S ht ha hS
    refine AccP_congr (AccP_S ha (hv tk ht) hS) (fun x => or_congr Iff.rfl ⟨fun e => ⟨tk, ⟨fun _ _ => rfl, fun a z => absurd z (List.not_mem_nil)⟩, e⟩, fun ⟨tk', h1, e⟩ => ?_⟩)
    rw [e, show tk' = tk from funext fun a => h1.1 a List.not_mem_nil]
  | cons w t ih =>
    intro tk a S ht ha hS
    have lp : ∀ m : Nat, m ≤ 21 → AccP ((List.range m).foldl (fun (a : Acc) (v : Nat) => goF mo f t (putT tk w (v : Int)) a) a) (fun x => S x ∨ ∃ v : Nat, v < m ∧ ∃ tk', TVx mo t (putT tk w (v : Int)) tk' ∧ x = f tk') := by
      intro m
      induction m with
      | zero =>
        intro _
        exact AccP_congr ha (fun x => ⟨Or.inl, fun q => q.elim id (fun ⟨v, h, _⟩ => absurd h (Nat.not_lt_zero v))⟩)
      | succ m im =>
        intro hm
        rw [List.range_succ, List.foldl_append]
        have h1 := im (by omega)
        have hp : ∀ v : Nat, v ≤ 20 → ∀ x, putT tk w (v : Int) x ≤ 20 := fun v hv x => by
          unfold putT
          have := ht x
          split <;> omega
        have h2 := ih (putT tk w (m : Int)) _ _ (hp m (by omega)) h1 (fun x q => q.elim (hS x) (fun ⟨v, v1, tk', v2, v3⟩ => by rw [v3]; exact hv tk' (hok t _ tk' (hp v (by omega)) v2)))
        refine AccP_congr h2 (fun x => ?_)
        constructor
        · rintro ((q | ⟨v, v1, q⟩) | q)
          · exact Or.inl q
          · exact Or.inr ⟨v, by omega, q⟩
          · exact Or.inr ⟨m, by omega, q⟩
        · rintro (q | ⟨v, v1, q⟩)
          · exact Or.inl (Or.inl q)
          · by_cases e : v = m
            · rw [e] at q; exact Or.inr q
            · exact Or.inl (Or.inr ⟨v, by omega, q⟩)
    have h3 := lp (mo w + 1) (by have := hmo w; omega)
    refine AccP_congr h3 (fun x => or_congr Iff.rfl ⟨fun ⟨v, v1, tk', ⟨h1, h2⟩, e⟩ => ⟨tk', ⟨fun a ha => ?_, fun a ha => ?_⟩, e⟩, fun ⟨tk', ⟨h1, h2⟩, e⟩ => ?_⟩)
    · have a1 : a ≠ w := fun z => ha (by rw [z]; exact List.mem_cons_self)
      have a2 : a ∉ t := fun z => ha (List.mem_cons_of_mem w z)
      rw [h1 a a2]
      exact if_neg a1
    · by_cases z : a ∈ t
      · exact h2 a z
      · rcases List.mem_cons.mp ha with y | y
        · refine ⟨v, by rw [y]; omega, ?_⟩
          rw [h1 a z]
          exact if_pos y
        · exact absurd y z
    · obtain ⟨v, v1, v2⟩ := h2 w List.mem_cons_self
      refine ⟨v, by omega, tk', ⟨fun a ha => ?_, fun a ha => h2 a (List.mem_cons_of_mem w ha)⟩, e⟩
      unfold putT
      by_cases y : a = w
      · rw [if_pos y, y, v2]
      · rw [if_neg y]
        exact h1 a (fun z => (List.mem_cons.mp z).elim y ha)
theorem rgL_uni {P : Nat → Prop} : ∀ {k : Nat} {L L' : List Nat}, rgL P k L → rgL P k L' → L = L'
  | 0, _, _, h, h' => Eq.trans h (Eq.symm h')
  | k + 1, L, L', h, h' => by
    rcases h with ⟨a, M, b, e⟩ | ⟨a, b⟩ <;> rcases h' with ⟨a', M', b', e'⟩ | ⟨a', b'⟩
    · rw [e, e', rgL_uni b b']
    · exact absurd a a'
    · exact absurd a' a
    · exact rgL_uni b b'
theorem rgL_cl {P R : Nat → Prop} : ∀ {k : Nat} {L : List Nat}, (∀ w, w < k → (P w ↔ R w)) → rgL P k L → rgL R k L
  | 0, _, _, h => h
  | k + 1, L, hc, h => by
    rcases h with ⟨a, M, b, e⟩ | ⟨a, b⟩
    · exact Or.inl ⟨(hc k (by omega)).mp a, M, rgL_cl (fun w hw => hc w (by omega)) b, e⟩
    · exact Or.inr ⟨fun z => a ((hc k (by omega)).mpr z), rgL_cl (fun w hw => hc w (by omega)) b⟩
end
