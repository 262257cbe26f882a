section
/-! THE LAW: its loop -/
variable {p : Program} {l : Launch} {e : Env} {s : State} {m : MethodId} {args : Array Value} {below : List Frame} {meth : Method} {c0 : Code} {D : va_G} {cA : Nat → ClassId} {adC adM : Nat → Nat} {AC AM A0 : Nat → Prop} {R : Room} {b L : Nat} {xs : Nat → Int32} {H0 : Heap}
theorem lw_loop {cells slots : Nat} {Q : State → Prop} (hS0 : LwS p s m args c0 D cA adC adM AC AM A0 R b L xs H0) (hLL : L ≤ 3072) (hcl : cells ≤ R.cells ∧ slots ≤ R.slots) (hend : ∀ (H1 : Heap) (locs1 : List Loc) (ls : Array Slot), va_S A0 H0 H1 locs1 → W p l e R s m args below meth c0 H1 locs1 cells slots Q (F0 m 1030 ls [])) : ∀ (f c : Nat), L < 6 * c + f → c ≤ 512 → ∀ (τ σ : am_HS) (H : Heap) (locs : List Loc) (ls : Array Slot), SR c τ σ → lv_has ls 4 [(3, .int (Int32.ofInt ((6 * c : Nat) : Int))), (0, .ref b), (1, .ref (adC 0)), (2, .ref (adM 0))] → va_P D vwCl (am_wl cA adC lc 287 σ) H → va_P D vwCl (am_wl cA adM lm 41 τ) H → va_S A0 H0 H locs → W p l e R s m args below meth c0 H locs cells slots Q (F0 m 18 ls []) := by
  have hS1 := hS0
  obtain ⟨hx, hb, hml, hown, hts, hK, hN, hDC, hDM, hdis, hAC, hAM, hR, hX, hbl, hbA⟩ := hS0
  have e6 : Int32.ofNat L - 6 = Int32.ofInt ((L : Int) - 6) := (Int32.ofInt_sub (L : Int) 6).symm
  intro f
  induction f with
  | zero =>
    intro c hf hc τ σ H locs ls h hl hP hP2 hS
    refine lv_iload_n hx hb dW_18 rfl (lv_at hl 0 rfl) ?_
    refine lv_aload_n hx hb dW_19 rfl (lv_at hl 1 rfl) ?_
    refine va_slen hx hb hX hbl hbA hS dW_20 ?_
    refine lv_bipush (v := 6) hx hb dW_21 (by decide) ?_
    refine lv_isub hx hb dW_23 ?_
    rw [e6]
    refine lv_icmp_gt (tgt := 1030) hx hb dW_24 (by decide) (fun q => hend H locs ls hS) (fun q => ?_)
    exfalso
    have w1 : (Int32.ofInt ((L : Int) - 6)).toInt = (L : Int) - 6 := wI_e ⟨by omega, by omega⟩
    have w2 : (Int32.ofInt ((6 * c : Nat) : Int)).toInt = ((6 * c : Nat) : Int) := wI_e ⟨by omega, by omega⟩
    refine q ?_
    show Int32.ofInt ((L : Int) - 6) < Int32.ofInt ((6 * c : Nat) : Int)
    rw [Int32.lt_iff_toInt_lt, w1, w2]
    omega
  | succ f ih =>
    intro c hf hc τ σ H locs ls h hl hP hP2 hS
    refine lv_iload_n hx hb dW_18 rfl (lv_at hl 0 rfl) ?_
    refine lv_aload_n hx hb dW_19 rfl (lv_at hl 1 rfl) ?_
    refine va_slen hx hb hX hbl hbA hS dW_20 ?_
    refine lv_bipush (v := 6) hx hb dW_21 (by decide) ?_
    refine lv_isub hx hb dW_23 ?_
    rw [e6]
    have w1 : (Int32.ofInt ((L : Int) - 6)).toInt = (L : Int) - 6 := wI_e ⟨by omega, by omega⟩
    have w2 : (Int32.ofInt ((6 * c : Nat) : Int)).toInt = ((6 * c : Nat) : Int) := wI_e ⟨by omega, by omega⟩
    refine lv_icmp_gt (tgt := 1030) hx hb dW_24 (by decide) (fun q => hend H locs ls hS) (fun q => ?_)
    have hi : 6 * c + 6 ≤ L := by
      have q2 : ¬ Int32.ofInt ((L : Int) - 6) < Int32.ofInt ((6 * c : Nat) : Int) := q
      rw [Int32.lt_iff_toInt_lt, w1, w2] at q2
      omega
    have z0 : Int32.ofInt ((6 * c : Nat) : Int) = Int32.ofInt ((6 * c : Nat) : Int) + Int32.ofInt ((0 : Nat) : Int) := by
      rw [show Int32.ofInt ((0 : Nat) : Int) = 0 from rfl, Int32.add_zero]
    have hin : vp_in (Int32.ofInt ((6 * c : Nat) : Int)) L := by
      rw [z0]
      exact lw_in (j := 0) (by omega) (by omega)
    refine lv_aload_n hx hb dW_27 rfl (lv_at hl 1 rfl) ?_
    refine lv_iload_n hx hb dW_28 rfl (lv_at hl 0 rfl) ?_
    refine va_sld hx hb hX hbl hbA hS hin dW_29 ?_
    refine lv_bipush (v := 31) hx hb dW_30 (by decide) ?_
    refine lv_iand hx hb dW_32 ?_
    generalize xs (Int32.ofInt ((6 * c : Nat) : Int)).toNatClampNeg &&& 31 = k
    have K : ∀ (τ' σ' : am_HS) (H1 : Heap) (locs1 : List Loc), SR (c + 1) τ' σ' → va_P D vwCl (am_wl cA adC lc 287 σ') H1 → va_P D vwCl (am_wl cA adM lm 41 τ') H1 → va_S A0 H0 H1 locs1 → W p l e R s m args below meth c0 H1 locs1 cells slots Q (F0 m 1024 ls []) := by
      intro τ' σ' H1 locs1 g1 g2 g3 g4
      have ev : Int32.ofInt ((6 * c : Nat) : Int) + Int32.ofInt 6 = Int32.ofInt ((6 * (c + 1) : Nat) : Int) := by
        rw [← Int32.ofInt_add]
        congr 1
      refine lv_iinc (v := Int32.ofInt ((6 * (c + 1) : Nat) : Int)) (lv' := [(3, .int (Int32.ofInt ((6 * (c + 1) : Nat) : Int))), (0, .ref b), (1, .ref (adC 0)), (2, .ref (adM 0))]) hx hb dW_1024 hl (k := 0) rfl ev (by decide) rfl (fun ls2 hl2 => ?_)
      refine lv_goto (tgt := 18) hx hb dW_1027 (by decide) ?_
      exact ih (c + 1) (by omega) (by omega) τ' σ' H1 locs1 ls2 g1 hl2 g2 g3 g4
    by_cases hk : k.toInt < 0 ∨ 21 < k.toInt
    · refine lv_tableOut (tgt := 1024) hx hb dW_33 hk (by decide) ?_
      exact K τ σ H locs h.up hP hP2 hS
    · have h1 : ¬ k.toInt < 0 := fun z => hk (Or.inl z)
      have h2 : ¬ 21 < k.toInt := fun z => hk (Or.inr z)
      have hcs : k.toInt = 0 ∨ k.toInt = 1 ∨ k.toInt = 2 ∨ k.toInt = 3 ∨ k.toInt = 4 ∨ k.toInt = 5 ∨ k.toInt = 6 ∨ k.toInt = 7 ∨ k.toInt = 8 ∨ k.toInt = 9 ∨ k.toInt = 10 ∨ k.toInt = 11 ∨ k.toInt = 12 ∨ k.toInt = 13 ∨ k.toInt = 14 ∨ k.toInt = 15 ∨ k.toInt = 16 ∨ k.toInt = 17 ∨ k.toInt = 18 ∨ k.toInt = 19 ∨ k.toInt = 20 ∨ k.toInt = 21 := by omega
      rcases hcs with q | q | q | q | q | q | q | q | q | q | q | q | q | q | q | q | q | q | q | q | q | q
      · refine lv_tableIn (off := 103) (tgt := 136) hx hb dW_33 h1 h2 (by rw [q]; rfl) (by decide) ?_
        exact lw_c0 hS1 h (by omega) hi (by omega) hl hcl hP hP2 hS K
      · refine lv_tableIn (off := 116) (tgt := 149) hx hb dW_33 h1 h2 (by rw [q]; rfl) (by decide) ?_
        exact lw_c1 hS1 h (by omega) hi (by omega) hl hcl hP hP2 hS K
      · refine lv_tableIn (off := 149) (tgt := 182) hx hb dW_33 h1 h2 (by rw [q]; rfl) (by decide) ?_
        exact lw_c2 hS1 h (by omega) hi (by omega) hl hcl hP hP2 hS K
      · refine lv_tableIn (off := 202) (tgt := 235) hx hb dW_33 h1 h2 (by rw [q]; rfl) (by decide) ?_
        exact lw_c3 hS1 h (by omega) hi (by omega) hl hcl hP hP2 hS K
      · refine lv_tableIn (off := 245) (tgt := 278) hx hb dW_33 h1 h2 (by rw [q]; rfl) (by decide) ?_
        exact lw_c4 hS1 h (by omega) hi (by omega) hl hcl hP hP2 hS K
      · refine lv_tableIn (off := 304) (tgt := 337) hx hb dW_33 h1 h2 (by rw [q]; rfl) (by decide) ?_
        exact lw_c5 hS1 h (by omega) hi (by omega) hl hcl hP hP2 hS K
      · refine lv_tableIn (off := 327) (tgt := 360) hx hb dW_33 h1 h2 (by rw [q]; rfl) (by decide) ?_
        exact lw_c6 hS1 h (by omega) hi (by omega) hl hcl hP hP2 hS K
      · refine lv_tableIn (off := 390) (tgt := 423) hx hb dW_33 h1 h2 (by rw [q]; rfl) (by decide) ?_
        exact lw_c7 hS1 h (by omega) hi (by omega) hl hcl hP hP2 hS K
      · refine lv_tableIn (off := 439) (tgt := 472) hx hb dW_33 h1 h2 (by rw [q]; rfl) (by decide) ?_
        exact lw_c8 hS1 h (by omega) hi (by omega) hl hcl hP hP2 hS K
      · refine lv_tableIn (off := 462) (tgt := 495) hx hb dW_33 h1 h2 (by rw [q]; rfl) (by decide) ?_
        exact lw_c9 hS1 h (by omega) hi (by omega) hl hcl hP hP2 hS K
      · refine lv_tableIn (off := 495) (tgt := 528) hx hb dW_33 h1 h2 (by rw [q]; rfl) (by decide) ?_
        exact lw_c10 hS1 h (by omega) hi (by omega) hl hcl hP hP2 hS K
      · refine lv_tableIn (off := 538) (tgt := 571) hx hb dW_33 h1 h2 (by rw [q]; rfl) (by decide) ?_
        exact lw_c11 hS1 h (by omega) hi (by omega) hl hcl hP hP2 hS K
      · refine lv_tableIn (off := 571) (tgt := 604) hx hb dW_33 h1 h2 (by rw [q]; rfl) (by decide) ?_
        exact lw_c12 hS1 h (by omega) hi (by omega) hl hcl hP hP2 hS K
      · refine lv_tableIn (off := 604) (tgt := 637) hx hb dW_33 h1 h2 (by rw [q]; rfl) (by decide) ?_
        exact lw_c13 hS1 h (by omega) hi (by omega) hl hcl hP hP2 hS K
      · refine lv_tableIn (off := 647) (tgt := 680) hx hb dW_33 h1 h2 (by rw [q]; rfl) (by decide) ?_
        exact lw_c14 hS1 h (by omega) hi (by omega) hl hcl hP hP2 hS K
      · refine lv_tableIn (off := 690) (tgt := 723) hx hb dW_33 h1 h2 (by rw [q]; rfl) (by decide) ?_
        exact lw_c15 hS1 h (by omega) hi (by omega) hl hcl hP hP2 hS K
      · refine lv_tableIn (off := 743) (tgt := 776) hx hb dW_33 h1 h2 (by rw [q]; rfl) (by decide) ?_
        exact lw_c16 hS1 h (by omega) hi (by omega) hl hcl hP hP2 hS K
      · refine lv_tableIn (off := 786) (tgt := 819) hx hb dW_33 h1 h2 (by rw [q]; rfl) (by decide) ?_
        exact lw_c17 hS1 h (by omega) hi (by omega) hl hcl hP hP2 hS K
      · refine lv_tableIn (off := 829) (tgt := 862) hx hb dW_33 h1 h2 (by rw [q]; rfl) (by decide) ?_
        exact lw_c18 hS1 h (by omega) hi (by omega) hl hcl hP hP2 hS K
      · refine lv_tableIn (off := 872) (tgt := 905) hx hb dW_33 h1 h2 (by rw [q]; rfl) (by decide) ?_
        exact lw_c19 hS1 h (by omega) hi (by omega) hl hcl hP hP2 hS K
      · refine lv_tableIn (off := 915) (tgt := 948) hx hb dW_33 h1 h2 (by rw [q]; rfl) (by decide) ?_
        exact lw_c20 hS1 h (by omega) hi (by omega) hl hcl hP hP2 hS K
      · refine lv_tableIn (off := 968) (tgt := 1001) hx hb dW_33 h1 h2 (by rw [q]; rfl) (by decide) ?_
        exact lw_c21 hS1 h (by omega) hi (by omega) hl hcl hP hP2 hS K
end
