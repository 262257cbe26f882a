section
/-! MAKING OBJECTS: rows of cells -/
variable {p : Program} {l : Launch} {e : Env} {s : State} {m : MethodId} {args : Array Value} {below : List Frame} {meth : Method} {c0 : Code} {D : va_G} {cA : Nat → ClassId} {ad : Nat → Nat} {lay : Nat → Nat ⊕ (Nat × Nat)} {A : Nat → Prop} {R : Room}
theorem am_wl_cong {n : Nat} {σ σ' : am_HS} (h : ∀ o, o < n → σ.1 o = σ'.1 o ∧ σ.2.1 o = σ'.2.1 o ∧ σ.2.2 o = σ'.2.2 o) : am_wl cA ad lay n σ = am_wl cA ad lay n σ' := by
  unfold am_wl
  refine List.map_congr_left (fun i hi => ?_)
  obtain ⟨a1, a2, a3⟩ := h i (List.mem_range.mp hi)
  exact Prod.ext rfl (am_ce_cong rfl a1 a2 (fun j => by rw [a3]))
theorem st_getR {cc : ByteArray} {c i ci k o x n nL pc cells slots : Nat} {σ : am_HS} {H0 H : Heap} {locs : List Loc} {ls : Array Slot} {rest : List Value} {Q : State → Prop} (C : mk_C p s m args meth c0 D cA c cc nL) (G : mk_G D cA A H0 lay n σ ad H locs) (h1 : am_T0.1 c i = some (ci, k)) (e1 : am_fty ci k = 3) (ho : o < n) (h3 : lay o = .inl ci) (hr : σ.2.2 o k = some x) (hd : decode cc pc = .ok (.getfield i, 3))
    (kk : W p l e R s m args below meth c0 H locs cells slots Q (F0 m (pc + 3) ls (.ref (ad x) :: rest))) : W p l e R s m args below meth c0 H locs cells slots Q (F0 m pc ls (.ref (ad o) :: rest)) := by
  obtain ⟨hx, hb, hml, hlocks, hown, hts, hin, hret, hK, hN⟩ := C
  obtain ⟨hP, hD, hS⟩ := G
  obtain ⟨C, T, N, g1, g2, g3⟩ := am_F h1
  obtain ⟨u1, u2, u3, u4, u5, u6⟩ := am_Call g1
  have hat := am_wl_at (cA := cA) (ad := ad) (lay := lay) (σ := σ) ho
  rw [am_ce_o h3] at hat
  have hk : k < am_nf ci := by rw [← u2]; exact g2
  have hv : ((List.range (am_nf ci)).map (am_fv ad σ o ci))[k]? = some (.ref (ad x)) := by
    rw [List.getElem?_map, List.getElem?_range hk]
    show some (am_fv ad σ o ci k) = _
    unfold am_fv
    rw [e1, hr]
    rfl
  exact va_get hx hb hts (am_utb u1) hown hK hP o hat g1 k g2 (hts _ (am_tb_in g3 rfl)) (fun _ z => z) hv hd kk
theorem st_alen {cc : ByteArray} {c k N o n nL pc cells slots : Nat} {σ : am_HS} {H0 H : Heap} {locs : List Loc} {ls : Array Slot} {rest : List Value} {Q : State → Prop} (C : mk_C p s m args meth c0 D cA c cc nL) (G : mk_G D cA A H0 lay n σ ad H locs) (ho : o < n) (h3 : lay o = .inr (k, N)) (hk : k < 6) (hd : decode cc pc = .ok (.arraylength, 1))
    (kk : W p l e R s m args below meth c0 H locs cells slots Q (F0 m (pc + 1) ls (.int (Int32.ofInt (N : Int)) :: rest))) : W p l e R s m args below meth c0 H locs cells slots Q (F0 m pc ls (.ref (ad o) :: rest)) := by
  obtain ⟨hx, hb, hml, hlocks, hown, hts, hin, hret, hK, hN⟩ := C
  obtain ⟨hP, hD, hS⟩ := G
  have hat := am_wl_at (cA := cA) (ad := ad) (lay := lay) (σ := σ) ho
  rw [am_ce_a h3] at hat
  exact va_alen (v := Int32.ofInt (N : Int)) hx hb hK hP o k hat (am_tys_at cA hk) (Int32.ofInt_eq_ofNat).symm hd kk
theorem st_aast {cc : ByteArray} {r : vw_C} {c kd ci2 N q o x n nL pc cells slots : Nat} {i : Int32} {σ σ' : am_HS} {H0 H : Heap} {locs : List Loc} {ls : Array Slot} {rest : List Value} {Q : State → Prop} (C : mk_C p s m args meth c0 D cA c cc nL) (G : mk_G D cA A H0 lay n σ ad H locs) (ho : o < n) (h3 : lay o = .inr (kd, N)) (hkd : (kd = 4 ∨ kd = 5) ∧ am_aty kd = .object r.1) (hxn : x < n) (hlx : lay x = .inl ci2) (hr : vwCl[ci2]? = some r) (hi : i.toNatClampNeg = q) (hin : vp_in i N) (hσ : uR σ o q (some x) = σ') (hd : decode cc pc = .ok (.aastore, 1))
    (kk : ∀ (H1 : Heap) (locs1 : List Loc), mk_G D cA A H0 lay n σ' ad H1 locs1 → W p l e R s m args below meth c0 H1 locs1 cells slots Q (F0 m (pc + 1) ls rest)) : W p l e R s m args below meth c0 H locs cells slots Q (F0 m pc ls (.ref (ad x) :: .int i :: .ref (ad o) :: rest)) := by
  obtain ⟨hx, hb, hml, hlocks, hown, hts, hin', hret, hK, hN⟩ := C
  obtain ⟨hP, hD, hS⟩ := G
  have hat := am_wl_at (cA := cA) (ad := ad) (lay := lay) (σ := σ) ho
  rw [am_ce_a h3] at hat
  have har : ∀ σ : am_HS, am_ar ad σ o kd = .inr (.inr (.inr (.inr (fun j => (σ.2.2 o j).map ad)))) := fun σ => by
    rcases hkd.1 with h | h
    · rw [h]; rfl
    · rw [h]; rfl
  rw [har] at hat
  have hax := am_wl_at (cA := cA) (ad := ad) (lay := lay) (σ := σ) hxn
  rw [am_ce_o hlx] at hax
  have ht : (am_tys cA)[kd]? = some (cA kd, .object r.1) := by
    rw [am_tys_at cA (by rcases hkd.1 with h | h <;> omega), hkd.2]
  have e2 : (am_wl cA ad lay n σ).set o (ad o, .inl (cA kd, N, .inr (.inr (.inr (.inr (va_up (fun j => (σ.2.2 o j).map ad) i.toNatClampNeg (some (ad x)))))))) = am_wl cA ad lay n σ' := by
    rw [← hσ]
    refine am_wl_set ?_ (fun z hz => am_ce_uR hz)
    rw [am_ce_a h3, har]
    have ef : (fun j => ((uR σ o q (some x)).2.2 o j).map ad) = va_up (fun j => (σ.2.2 o j).map ad) i.toNatClampNeg (some (ad x)) := funext fun j => by
      unfold va_up uR
      rw [hi]
      by_cases e : j = q
      · rw [if_pos e]
        show ((if o = o ∧ j = q then some x else σ.2.2 o j)).map ad = _
        rw [if_pos ⟨rfl, e⟩]
        rfl
      · rw [if_neg e]
        show ((if o = o ∧ j = q then some x else σ.2.2 o j)).map ad = _
        rw [if_neg (fun z => e z.2)]
    rw [ef]
  refine va_astq hx hb hK hP hD hS o kd x ci2 hat ht hax hr hin hd (fun H1 locs1 hP1 hD1 hS1 => ?_)
  rw [e2] at hP1 hD1
  exact kk H1 locs1 ⟨hP1, hD1, hS1⟩
theorem mS_0 : mS 0 = z0 := by
  refine Prod.ext rfl (Prod.ext rfl (funext fun o => funext fun k => ?_))
  show (match mH o k with | some x => if x ≤ 0 then some x else none | none => none) = none
  cases hz : mH o k with
  | none => rfl
  | some x =>
    have l1 := mH_lt hz
    rw [l1.1] at hz
    have h : ∀ k, k < 67 → (match mH 0 k with | some x => decide (1 ≤ x) | none => true) = true := by decide +kernel
    have h2 := h k l1.2
    rw [hz] at h2
    have h3 : 1 ≤ x := of_decide_eq_true h2
    show (if x ≤ 0 then some x else none) = none
    rw [if_neg (by omega)]
/-- the reference's maker -/
theorem cn_7 : cn_Met l D cA yX7_init cX7_init 2 6 rmk7 lm 41 tau0 := by
  refine mk_met (lay := lm) (c := 7) (idx := 1) (by decide +kernel) rfl rfl (by decide) rfl cw_o7 ⟨by decide, by decide⟩ dX7_init_0 dX7_init_1 (fun p e s m args below meth c0 a A ls C hA G hl => ?_)
  have C0 := C
  obtain ⟨hx, hb, hml, hlocks, hown, hts, hin, hret, hK, hN⟩ := C0
  obtain ⟨hP, hD, hS⟩ := G
  rw [← mS_0] at hP hD
  refine mk_allM (ad0 := fun _ => a) hx hb hown hts hin hl hK hP hD hS hA (Nat.le_refl _) (Nat.le_refl _) (fun ad H1 locs1 a0 hl1 hP1 hD1 hS1 => ?_)
  refine st_tie (d := 0) (lv := [some (vR (some 0)), none]) C ⟨hP1, hD1, hS1⟩ a0 lm_ok ⟨by decide, by decide⟩ hl1 (fun i v hv => ?_) ⟨Nat.le_refl _, Nat.le_refl _⟩ (ini_M 0)
  match i, hv with
  | 0, hv => cases hv; exact trivial
  | 1, hv => cases hv
  | i + 2, hv => cases hv
end
