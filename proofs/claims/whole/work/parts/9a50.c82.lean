section
/-! MAKING CELLS: a field is given its cell -/
variable {p : Program} {l : Launch} {e : Env} {s : State} {m : MethodId} {args : Array Value} {below : List Frame} {meth : Method} {c0 : Code} {D : va_G} {cA : Nat → ClassId} {ad : Nat → Nat} {lay : Nat → Nat ⊕ (Nat × Nat)} {n : Nat} {A : Nat → Prop} {R : Room}
theorem mk_putR {cc : ByteArray} {c i ci k o x pc cells slots : Nat} {σ : am_HS} {H0 H : Heap} {locs : List Loc} {ls : Array Slot} {rest : List Value} {Q : State → Prop} (hx : p.tables.exec = Jvm.exec) (hb : c0.code = cc) (hown : s.vm.findClass (am_own c) = some m.cls) (hts : ∀ w ∈ am_tb, w.before args s = true) (hK : va_K D vwCl (am_tys cA) s) (hP : va_P D vwCl (am_wl cA ad lay n σ) H) (hD : va_D A (am_wl cA ad lay n σ)) (hS : va_S A H0 H locs) (h1 : am_T0.1 c i = some (ci, k)) (e1 : am_fty ci k = 3) (hfn : am_ffin ci k = false ∨ (meth.name = "<init>" ∧ ∀ q, vwCl[ci]? = some q → (q.2.1 k).1 = am_own c)) (ho : o < n) (h3 : lay o = .inl ci) (hd : decode cc pc = .ok (.putfield i, 3))
    (kk : ∀ (H1 : Heap) (locs1 : List Loc), va_P D vwCl (am_wl cA ad lay n (uR σ o k (some x))) H1 → va_D A (am_wl cA ad lay n (uR σ o k (some x))) → va_S A H0 H1 locs1 → W p l e R s m args below meth c0 H1 locs1 cells slots Q (F0 m (pc + 3) ls rest)) : W p l e R s m args below meth c0 H locs cells slots Q (F0 m pc ls (.ref (ad x) :: .ref (ad o) :: rest)) := by
  obtain ⟨C, T, N, g1, g2, g3⟩ := am_F h1
  obtain ⟨u1, u2, u3, u4, u5, u6⟩ := am_Call g1
  have hat := am_wl_at (cA := cA) (ad := ad) (lay := lay) (σ := σ) ho
  rw [am_ce_o h3] at hat
  have hk : k < am_nf ci := by rw [← u2]; exact g2
  have hfl : k < ((List.range (am_nf ci)).map (am_fv ad σ o ci)).length := by simpa using hk
  have hty := u6 k g2
  rw [e1] at hty
  have et : am_isRef (am_tyf ci k) = true := by unfold am_tyok at hty; split at hty <;> simp_all [am_isRef]
  have n1 : narrow (am_tyf ci k) (va_rf ((some x).map ad)) = va_rf ((some x).map ad) := by
    revert et; cases am_tyf ci k <;> intro et <;> first | rfl | cases et
  have n2 : fits (am_tyf ci k) (va_rf ((some x).map ad)) = true := by
    revert et; cases am_tyf ci k <;> intro et <;> first | rfl | cases et
  have e2 : (am_wl cA ad lay n σ).set o (ad o, .inr (ci, ((List.range (am_nf ci)).map (am_fv ad σ o ci)).set k (va_rf ((some x).map ad)))) = am_wl cA ad lay n (uR σ o k (some x)) := am_wl_set (by rw [am_ce_o h3, am_rg_set (g := am_fv ad (uR σ o k (some x)) o ci) (by simp [am_fv, e1, uR]) (fun j hj => by simp [am_fv, uR, hj])]) (fun i hi => am_ce_uR hi)
  rcases hfn with hf | ⟨hi, hdc⟩
  · refine va_put (v := va_rf ((some x).map ad)) hx hb hts (am_utb u1) (am_tyf ci) u3 u4 hown hK hP hD hS o hat g1 k g2 (hts _ (am_tb_in g3 rfl)) (fun _ z => z) ((u5 k g2).trans hf) (u3 k g2) n1 n2 hfl hd (fun H1 locs1 hP1 hD1 hS1 => ?_)
    rw [e2] at hP1 hD1
    exact kk H1 locs1 hP1 hD1 hS1
  · cases hf : am_ffin ci k with
    | false =>
      refine va_put (v := va_rf ((some x).map ad)) hx hb hts (am_utb u1) (am_tyf ci) u3 u4 hown hK hP hD hS o hat g1 k g2 (hts _ (am_tb_in g3 rfl)) (fun _ z => z) ((u5 k g2).trans hf) (u3 k g2) n1 n2 hfl hd (fun H1 locs1 hP1 hD1 hS1 => ?_)
      rw [e2] at hP1 hD1
      exact kk H1 locs1 hP1 hD1 hS1
    | true =>
      refine va_putF (v := va_rf ((some x).map ad)) hx hb hts (am_utb u1) (am_tyf ci) u3 u4 hown hK hP hD hS o hat g1 k g2 (hts _ (am_tb_in g3 rfl)) (fun _ z => z) ((u5 k g2).trans hf) hi (hdc _ g1) (u3 k g2) n1 n2 hfl hd (fun H1 locs1 hP1 hD1 hS1 => ?_)
      rw [e2] at hP1 hD1
      exact kk H1 locs1 hP1 hD1 hS1
end
