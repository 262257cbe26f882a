section
/-! MAKING CELLS: newarray -/
variable {p : Program} {l : Launch} {e : Env} {s : State} {m : MethodId} {args : Array Value} {below : List Frame} {meth : Method} {c0 : Code} {D : va_G} {cA : Nat → ClassId} {ad : Nat → Nat} {lay : Nat → Nat ⊕ (Nat × Nat)} {n : Nat} {A : Nat → Prop} {R : Room}
theorem va_RA_uni {U : State} {a b : ClassId} {k : Nat} (hk : k < 4) (h1 : va_RA U a (am_aty k)) (h2 : va_RA U b (am_aty k)) : a = b := by
  match k, hk with
  | 0, _ => exact Option.some.inj (Eq.trans (Eq.symm h1) h2)
  | 1, _ => exact Option.some.inj (Eq.trans (Eq.symm h1) h2)
  | 2, _ => exact Option.some.inj (Eq.trans (Eq.symm h1) h2)
  | 3, _ => exact Option.some.inj (Eq.trans (Eq.symm h1) h2)
theorem mk_newa {cc : ByteArray} {k N pc cells slots : Nat} {atype : ArrayType} {σ : am_HS} {H0 H : Heap} {locs : List Loc} {ls : Array Slot} {rest : List Value} {x : Int32} {Q : State → Prop} (hx : p.tables.exec = Jvm.exec) (hb : c0.code = cc) (harr : (Cond.arrayClass (newarray.typeOf atype)).before args s = true) (hty : newarray.typeOf atype = am_aty k) (hk : k < 4) (hK : va_K D vwCl (am_tys cA) s) (hP : va_P D vwCl (am_wl cA ad lay n σ) H) (hD : va_D A (am_wl cA ad lay n σ)) (hS : va_S A H0 H locs) (hA : ∀ q, H0.size ≤ q → A q) (hlay : lay n = .inr (k, N)) (hz1 : σ.1 n = fun _ => 0) (hz2 : σ.2.1 n = fun _ => 0) (hrf : rfB σ n) (hn : ¬ x < 0) (hN : x.toNatClampNeg = N) (hbytes : N * componentBytes (am_aty k) ≤ 536870912) (hcells : cells + 1 ≤ R.cells) (hslots : slots + N ≤ R.slots) (hdg : decode cc pc = .ok (.newarray atype, 2))
    (kk : ∀ (q : Nat) (H1 : Heap), va_P D vwCl (am_wl cA (adU ad n q) lay (n + 1) σ) H1 → va_D A (am_wl cA (adU ad n q) lay (n + 1) σ) → va_S A H0 H1 locs → W p l e R s m args below meth c0 H1 locs (cells + 1) (slots + N) Q (F0 m (pc + 2) ls (.ref q :: rest))) : W p l e R s m args below meth c0 H locs cells slots Q (F0 m pc ls (.int x :: rest)) := by
  have ha : ∀ c : ClassId, vp_cell c (N, am_ar ad σ n k) = arrV c N (fun _ => defaultValue (am_aty k)) := fun c => by
    match k, hk with
    | 0, _ => show arrV c N (fun j => .int (σ.1 n j)) = _; rw [hz1]; rfl
    | 1, _ => show arrV c N (fun j => .int (σ.1 n j)) = _; rw [hz1]; rfl
    | 2, _ => show arrV c N (fun j => .int (σ.1 n j)) = _; rw [hz1]; rfl
    | 3, _ => show arrV c N (fun j => .long (σ.2.1 n j)) = _; rw [hz2]; rfl
  have har : ∀ q, am_ar (adU ad n q) σ n k = am_ar ad σ n k := fun q => by
    match k, hk with
    | 0, _ => rfl
    | 1, _ => rfl
    | 2, _ => rfl
    | 3, _ => rfl
  refine va_newa hx hb harr hty hK hP hD hS hA (a0 := (N, am_ar ad σ n k)) ha hn hN hbytes hcells hslots hdg (fun q cA' H1 hK' hP' hD' hS' => ?_)
  have e1 : cA' = cA k := va_RA_uni (U := s) hk (hK'.2 6 (cA', am_aty k) rfl).2 (hK.2 k (cA k, am_aty k) (am_tys_at cA (by omega))).2
  have e2 : am_wl cA (adU ad n q) lay (n + 1) σ = am_wl cA ad lay n σ ++ [(q, .inl (cA', N, am_ar ad σ n k))] := by
    rw [am_wl_adU hrf, am_ce_a hlay, har q, e1]
  rw [← e2] at hP' hD'
  exact kk q H1 hP' hD' hS'
end
