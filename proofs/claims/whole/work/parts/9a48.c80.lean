section
/-! MAKING CELLS: a world grows by one -/
variable {p : Program} {l : Launch} {e : Env} {s : State} {m : MethodId} {args : Array Value} {below : List Frame} {meth : Method} {c0 : Code} {D : va_G} {cA : Nat → ClassId} {ad : Nat → Nat} {lay : Nat → Nat ⊕ (Nat × Nat)} {n : Nat} {A : Nat → Prop} {R : Room}
/-- the address of one more cell -/
def adU (ad : Nat → Nat) (n q : Nat) : Nat → Nat := fun i => if i = n then q else ad i
/-- no cell below n names a cell from n on -/
def rfB (σ : am_HS) (n : Nat) : Prop := ∀ o j x, o < n → σ.2.2 o j = some x → x < n
theorem am_ce_adU {σ : am_HS} {q o : Nat} (h : rfB σ n) (ho : o < n) : am_ce cA (adU ad n q) lay σ o = am_ce cA ad lay σ o := by
  have e : ∀ j, (σ.2.2 o j).map (adU ad n q) = (σ.2.2 o j).map ad := fun j => by
    cases hz : σ.2.2 o j with
    | none => rfl
    | some x =>
      have := h o j x ho hz
      show some (if x = n then q else ad x) = some (ad x)
      rw [if_neg (by omega)]
  unfold am_ce
  cases lay o with
  | inl ci =>
    show (Sum.inr (ci, _) : va_E) = Sum.inr (ci, _)
    congr 2
    refine List.map_congr_left (fun k _ => ?_)
    unfold am_fv
    rw [e k]
  | inr z =>
    show (Sum.inl (cA z.1, z.2, am_ar (adU ad n q) σ o z.1) : va_E) = Sum.inl (cA z.1, z.2, am_ar ad σ o z.1)
    have e2 : am_ar (adU ad n q) σ o z.1 = am_ar ad σ o z.1 := by
      unfold am_ar
      rw [show (fun j => (σ.2.2 o j).map (adU ad n q)) = fun j => (σ.2.2 o j).map ad from funext e]
    rw [e2]
theorem am_wl_adU {σ : am_HS} {q : Nat} (h : rfB σ n) : am_wl cA (adU ad n q) lay (n + 1) σ = am_wl cA ad lay n σ ++ [(q, am_ce cA (adU ad n q) lay σ n)] := by
  unfold am_wl
  rw [List.range_succ, List.map_append]
  congr 1
  · refine List.map_congr_left (fun i hi => ?_)
    have hin := List.mem_range.mp hi
    rw [am_ce_adU h hin]
    show (if i = n then q else ad i, _) = (ad i, _)
    rw [if_neg (by omega)]
  · show [(if n = n then q else ad n, _)] = [(q, _)]
    rw [if_pos rfl]
end
