section
/-! THE LAW: one call of each, and the answers compared -/
variable {p : Program} {l : Launch} {e : Env} {s : State} {m : MethodId} {args : Array Value} {below : List Frame} {meth : Method} {c0 : Code} {D : va_G} {cA : Nat → ClassId} {adC adM : Nat → Nat} {AC AM A0 : Nat → Prop} {R : Room}
theorem lw_pair {own : String} {cc : ByteArray} {nL iC iM m6 m7 pcC pcR pcM cells slots c : Nat} {τ σ : am_HS} {a : List am_V} {H0 H : Heap} {locs : List Loc} {ls : Array Slot} {Q : State → Prop}
    (hx : p.tables.exec = Jvm.exec) (hb : c0.code = cc) (hml : c0.maxLocals = nL) (hown : s.vm.findClass own = some m.cls) (hts : ∀ w ∈ am_tb, w.before args s = true)
    (hK : va_K D vwCl (am_tys cA) s) (hN : am_N s) (hDC : ∀ σ, va_D AC (am_wl cA adC lc 287 σ)) (hDM : ∀ σ, va_D AM (am_wl cA adM lm 41 σ)) (hdis : ∀ q, AC q → ¬ AM q) (hAC : ∀ q, AC q → A0 q) (hAM : ∀ q, AM q → A0 q) (hlyC : am_lyok lc 287) (hlyM : am_lyok lm 41)
    (hR : 785 ≤ R.frames ∧ 31400 ≤ R.locals) (h6 : m6 < am_ML.length) (h7 : m7 < am_ML.length) (s6 : (am_M0 m6).2.2.2.2.2.1 = false) (s7 : (am_M0 m7).2.2.2.2.2.1 = false) (l6 : lc 0 = .inl (am_M0 m6).2.2.2.2.2.2) (l7 : lm 0 = .inl (am_M0 m7).2.2.2.2.2.2) (n6 : a.length = (am_M0 m6).2.2.2.1) (n7 : a.length = (am_M0 m7).2.2.2.1)
    (k6 : (Cond.methodLink own iC (am_Y m6)).before args s = true) (k7 : (Cond.methodLink own iM (am_Y m7)).before args s = true) (d6 : decode cc pcC = .ok (.invokevirtual iC, 3)) (d7 : decode cc pcM = .ok (.invokevirtual iM, 3)) (hls : ls.size = nL) (hcl : cells ≤ R.cells ∧ slots ≤ R.slots)
    (hs : SimD c τ σ m7 m6 a) (hok : am_oks a) (epc : pcR = pcC + 3)
    (hrM : ∀ (z : Int32) (Hh : Heap) (lo : List Loc), va_S A0 H0 Hh lo → W p l e R s m args below meth c0 Hh lo cells slots Q (F0 m pcM ls ((a.map (am_cz adM)).reverse ++ .ref (adM 0) :: [.int z])) → W p l e R s m args below meth c0 Hh lo cells slots Q (F0 m pcR ls [.int z]))
    (hP : va_P D vwCl (am_wl cA adC lc 287 σ) H) (hP2 : va_P D vwCl (am_wl cA adM lm 41 τ) H) (hS : va_S A0 H0 H locs)
    (K : ∀ (z : Int32) (τ' σ' : am_HS) (H1 : Heap) (locs1 : List Loc), SR (c + 1) τ' σ' → va_P D vwCl (am_wl cA adC lc 287 σ') H1 → va_P D vwCl (am_wl cA adM lm 41 τ') H1 → va_S A0 H0 H1 locs1 → W p l e R s m args below meth c0 H1 locs1 cells slots Q (F0 m (pcM + 3) ls [.int z, .int z])) :
    W p l e R s m args below meth c0 H locs cells slots Q (F0 m pcC ls ((a.map (am_cz adC)).reverse ++ .ref (adC 0) :: [])) := by
  obtain ⟨Q7, Q6, ⟨r7, t7, q7, e7⟩, ⟨r6, t6, q6, e6⟩, hz⟩ := hs
  obtain ⟨z7, rfl, q7⟩ := q7
  obtain ⟨z6, rfl, q6⟩ := q6
  obtain ⟨ez, hSR⟩ := hz z7 t7 z6 t6 q7 q6
  refine lw_call hx hb hml hown hts hK hN hDC hlyC (d := 43) ⟨Nat.le_trans (Nat.le_of_ble_eq_true rfl) hR.1, Nat.le_trans (Nat.le_of_ble_eq_true rfl) hR.2⟩ h6 s6 l6 e6 hok n6 k6 d6 hls (by decide) hcl hP hP2 (fun k q hk y => hdis q.1 y ((hDM τ).2 k q hk)) hS hAC (fun H1 locs1 _ g1 g2 _ hS1 => ?_)
  rw [← epc]
  refine hrM _ H1 locs1 hS1 ?_
  refine lw_call hx hb hml hown hts hK hN hDM hlyM (d := 784) ⟨hR.1, hR.2⟩ h7 s7 l7 e7 hok n7 k7 d7 hls (show 1 + 0 ≤ 8 by decide) hcl g2 g1 (fun k q hk y => hdis q.1 ((hDC t6).2 k q hk) y) hS1 hAM (fun H2 locs2 _ f1 f2 _ hS2 => ?_)
  rw [ez]
  exact K _ t7 t6 H2 locs2 hSR f2 f1 hS2
end
