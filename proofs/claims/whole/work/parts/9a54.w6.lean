section
/-! THE REFERENCE'S CONSTRUCTOR: what it fills -/
def grpI (σ : am_HS) : Nat → am_HS
  | 0 => σ
  | k + 1 => uI (grpI σ k) 2 k (k : Int)
theorem grpI_r (σ : am_HS) : ∀ k, (grpI σ k).2.2 = σ.2.2
  | 0 => rfl
  | k + 1 => grpI_r σ k
theorem mH_40 : ∀ k, k < 67 → ∀ x, mH 0 k = some x → x ≤ 40 := by
  intro k hk x hx
  have h : ∀ k, k < 67 → (match mH 0 k with | some x => decide (x ≤ 40) | none => true) = true := by decide +kernel
  have := h k hk
  rw [hx] at this
  exact of_decide_eq_true this
theorem mS_40 : (mS 40).2.2 = mH := by
  funext o k
  show (match mH o k with | some x => if x ≤ 40 then some x else none | none => none) = mH o k
  cases hz : mH o k with
  | none => rfl
  | some x =>
    have l1 := mH_lt hz
    rw [l1.1] at hz
    exact if_pos (mH_40 k l1.2 x hz)
theorem ini_l1 {d : Nat} (σ : am_HS) (hf : σ.2.2 = mH) {Q : Option am_V → am_HS → Prop} (hq : am_Go lm d 7 2 0 cX7_init 360 [some (vR (some 0)), some (vI ((180 : Nat) : Int))] [] (fillI σ 13 180 (-1)) Q) : ∀ (m q : Nat), q + m = 180 → am_Go lm d 7 2 0 cX7_init 338 [some (vR (some 0)), some (vI (q : Int))] [] (fillI σ 13 q (-1)) Q := by
    intro m
    induction m with
    | zero =>
      intro q hq0
      have hq6 : q = 180 := by omega
      subst hq6
      refine g_iload_n dX7_init_338 rfl ?_
      refine g_aload_n dX7_init_339 rfl ?_
      refine g_getA dX7_init_340 tf_7_46 rfl rfl (mrf hf rfl) ?_
      refine g_alen dX7_init_343 rfl ⟨by decide, by decide⟩ ?_
      refine g_icmp_ge (tgt := 360) dX7_init_344 (by decide) (fun c10 => ?_) (fun c10 => ?_)
      · exact hq
      · exfalso; omega
    | succ m ih =>
      intro q hq0
      refine g_iload_n dX7_init_338 rfl ?_
      refine g_aload_n dX7_init_339 rfl ?_
      refine g_getA dX7_init_340 tf_7_46 rfl rfl (mrf hf rfl) ?_
      refine g_alen dX7_init_343 rfl ⟨by decide, by decide⟩ ?_
      refine g_icmp_ge (tgt := 360) dX7_init_344 (by decide) (fun c10 => ?_) (fun c10 => ?_)
      · exfalso; omega
      · refine g_aload_n dX7_init_347 rfl ?_
        refine g_getA dX7_init_348 tf_7_46 rfl rfl (mrf hf rfl) ?_
        refine g_iload_n dX7_init_351 rfl ?_
        refine g_iconst dX7_init_352 ⟨by decide, by decide⟩ ?_
        refine g_iastN (q) dX7_init_353 rfl (by omega) (by omega) ?_
        refine g_iinc dX7_init_354 (by decide) rfl ⟨by omega, by omega⟩ rfl rfl ?_
        refine g_goto (tgt := 338) dX7_init_357 (by decide) ?_
        rw [fillI_s]
        exact ih (q + 1) (by omega)
theorem ini_l2 {d : Nat} (σ : am_HS) (hf : σ.2.2 = mH) {Q : Option am_V → am_HS → Prop} (hq : am_Go lm d 7 2 0 cX7_init 384 [some (vR (some 0)), some (vI ((360 : Nat) : Int))] [] (fillI σ 14 360 (-1)) Q) : ∀ (m q : Nat), q + m = 360 → am_Go lm d 7 2 0 cX7_init 362 [some (vR (some 0)), some (vI (q : Int))] [] (fillI σ 14 q (-1)) Q := by
    intro m
    induction m with
    | zero =>
      intro q hq0
      have hq6 : q = 360 := by omega
      subst hq6
      refine g_iload_n dX7_init_362 rfl ?_
      refine g_aload_n dX7_init_363 rfl ?_
      refine g_getA dX7_init_364 tf_7_49 rfl rfl (mrf hf rfl) ?_
      refine g_alen dX7_init_367 rfl ⟨by decide, by decide⟩ ?_
      refine g_icmp_ge (tgt := 384) dX7_init_368 (by decide) (fun c10 => ?_) (fun c10 => ?_)
      · exact hq
      · exfalso; omega
    | succ m ih =>
      intro q hq0
      refine g_iload_n dX7_init_362 rfl ?_
      refine g_aload_n dX7_init_363 rfl ?_
      refine g_getA dX7_init_364 tf_7_49 rfl rfl (mrf hf rfl) ?_
      refine g_alen dX7_init_367 rfl ⟨by decide, by decide⟩ ?_
      refine g_icmp_ge (tgt := 384) dX7_init_368 (by decide) (fun c10 => ?_) (fun c10 => ?_)
      · exfalso; omega
      · refine g_aload_n dX7_init_371 rfl ?_
        refine g_getA dX7_init_372 tf_7_49 rfl rfl (mrf hf rfl) ?_
        refine g_iload_n dX7_init_375 rfl ?_
        refine g_iconst dX7_init_376 ⟨by decide, by decide⟩ ?_
        refine g_iastN (q) dX7_init_377 rfl (by omega) (by omega) ?_
        refine g_iinc dX7_init_378 (by decide) rfl ⟨by omega, by omega⟩ rfl rfl ?_
        refine g_goto (tgt := 362) dX7_init_381 (by decide) ?_
        rw [fillI_s]
        exact ih (q + 1) (by omega)
theorem ini_l3 {d : Nat} (σ : am_HS) (hf : σ.2.2 = mH) {Q : Option am_V → am_HS → Prop} (hq : am_Go lm d 7 2 0 cX7_init 405 [some (vR (some 0)), some (vI ((10 : Nat) : Int))] [] (fillI σ 7 10 (-1)) Q) : ∀ (m q : Nat), q + m = 10 → am_Go lm d 7 2 0 cX7_init 386 [some (vR (some 0)), some (vI (q : Int))] [] (fillI σ 7 q (-1)) Q := by
    intro m
    induction m with
    | zero =>
      intro q hq0
      have hq6 : q = 10 := by omega
      subst hq6
      refine g_iload_n dX7_init_386 rfl ?_
      refine g_bipush dX7_init_387 (by decide) ?_
      refine g_icmp_ge (tgt := 405) dX7_init_389 (by decide) (fun c10 => ?_) (fun c10 => ?_)
      · exact hq
      · exfalso; omega
    | succ m ih =>
      intro q hq0
      refine g_iload_n dX7_init_386 rfl ?_
      refine g_bipush dX7_init_387 (by decide) ?_
      refine g_icmp_ge (tgt := 405) dX7_init_389 (by decide) (fun c10 => ?_) (fun c10 => ?_)
      · exfalso; omega
      · refine g_aload_n dX7_init_392 rfl ?_
        refine g_getA dX7_init_393 tf_7_28 rfl rfl (mrf hf rfl) ?_
        refine g_iload_n dX7_init_396 rfl ?_
        refine g_iconst dX7_init_397 ⟨by decide, by decide⟩ ?_
        refine g_iastN (q) dX7_init_398 rfl (by omega) (by omega) ?_
        refine g_iinc dX7_init_399 (by decide) rfl ⟨by omega, by omega⟩ rfl rfl ?_
        refine g_goto (tgt := 386) dX7_init_402 (by decide) ?_
        rw [fillI_s]
        exact ih (q + 1) (by omega)
theorem ini_l4 {d : Nat} (σ : am_HS) (hf : σ.2.2 = mH) {Q : Option am_V → am_HS → Prop} (hq : am_Go lm d 7 2 0 cX7_init 426 [some (vR (some 0)), some (vI ((6 : Nat) : Int))] [] (grpI σ 6) Q) : ∀ (m q : Nat), q + m = 6 → am_Go lm d 7 2 0 cX7_init 407 [some (vR (some 0)), some (vI (q : Int))] [] (grpI σ q) Q := by
    intro m
    induction m with
    | zero =>
      intro q hq0
      have hq6 : q = 6 := by omega
      subst hq6
      refine g_iload_n dX7_init_407 rfl ?_
      refine g_bipush dX7_init_408 (by decide) ?_
      refine g_icmp_ge (tgt := 426) dX7_init_410 (by decide) (fun c10 => ?_) (fun c10 => ?_)
      · exact hq
      · exfalso; omega
    | succ m ih =>
      intro q hq0
      refine g_iload_n dX7_init_407 rfl ?_
      refine g_bipush dX7_init_408 (by decide) ?_
      refine g_icmp_ge (tgt := 426) dX7_init_410 (by decide) (fun c10 => ?_) (fun c10 => ?_)
      · exfalso; omega
      · refine g_aload_n dX7_init_413 rfl ?_
        refine g_getA dX7_init_414 tf_7_13 rfl rfl (mrf ((grpI_r σ q).trans hf) rfl) ?_
        refine g_iload_n dX7_init_417 rfl ?_
        refine g_iload_n dX7_init_418 rfl ?_
        refine g_iastN (q) dX7_init_419 rfl (by omega) (by omega) ?_
        refine g_iinc dX7_init_420 (by decide) rfl ⟨by omega, by omega⟩ rfl rfl ?_
        refine g_goto (tgt := 407) dX7_init_423 (by decide) ?_
        exact ih (q + 1) (by omega)
/-- the new reference -/
def tau0 : am_HS := grpI (fillI (fillI (fillI (mS 40) 13 180 (-1)) 14 360 (-1)) 7 10 (-1)) 6
theorem ini_M (d : Nat) : am_Go lm d 7 2 0 cX7_init 336 [some (vR (some 0)), none] [] (mS 40) (qV fun s => s = tau0) := by
  refine g_iconst dX7_init_336 ⟨by decide, by decide⟩ ?_
  refine g_istore_n dX7_init_337 (by decide) rfl ?_
  have e1 := ini_l1 (d := d) (mS 40) mS_40 (Q := qV fun s => s = tau0) ?_ 180 0 rfl
  · rw [fillI_0] at e1
    exact e1
  refine g_iconst dX7_init_360 ⟨by decide, by decide⟩ ?_
  refine g_istore_n dX7_init_361 (by decide) rfl ?_
  have e2 := ini_l2 (d := d) (fillI (mS 40) 13 180 (-1)) mS_40 (Q := qV fun s => s = tau0) ?_ 360 0 rfl
  · rw [fillI_0] at e2
    exact e2
  refine g_iconst dX7_init_384 ⟨by decide, by decide⟩ ?_
  refine g_istore_n dX7_init_385 (by decide) rfl ?_
  have e3 := ini_l3 (d := d) (fillI (fillI (mS 40) 13 180 (-1)) 14 360 (-1)) mS_40 (Q := qV fun s => s = tau0) ?_ 10 0 rfl
  · rw [fillI_0] at e3
    exact e3
  refine g_iconst dX7_init_405 ⟨by decide, by decide⟩ ?_
  refine g_istore_n dX7_init_406 (by decide) rfl ?_
  refine ini_l4 (d := d) (fillI (fillI (fillI (mS 40) 13 180 (-1)) 14 360 (-1)) 7 10 (-1)) mS_40 (Q := qV fun s => s = tau0) ?_ 6 0 rfl
  exact g_return dX7_init_426 rfl ⟨rfl, rfl⟩
end
