theorem lw_spl {D : va_G} {ws1 ws2 : va_W} {H : Heap} (h : va_P D vwCl (ws1 ++ ws2) H) : va_P D vwCl ws1 H ∧ va_P D vwCl ws2 H := by
  refine ⟨fun k q hk => h k q ?_, fun k q hk => h (ws1.length + k) q ?_⟩
  · rw [List.getElem?_append_left (List.getElem?_eq_some_iff.mp hk).1]
    exact hk
  · rw [List.getElem?_append_right (by omega), Nat.add_sub_cancel_left]
    exact hk
theorem lw_spD {A : Nat → Prop} {ws1 ws2 : va_W} (h : va_D A (ws1 ++ ws2)) : (va_D A ws1 ∧ va_D A ws2) ∧ ∀ (i j : Nat) (p q : Nat × va_E), ws1[i]? = some p → ws2[j]? = some q → p.1 ≠ q.1 := by
  have l1 : ∀ (i : Nat) (p : Nat × va_E), ws1[i]? = some p → i < ws1.length ∧ (ws1 ++ ws2)[i]? = some p := fun i p hi => by
    have hl := (List.getElem?_eq_some_iff.mp hi).1
    rw [List.getElem?_append_left hl]
    exact ⟨hl, hi⟩
  have l2 : ∀ (i : Nat) (p : Nat × va_E), ws2[i]? = some p → (ws1 ++ ws2)[ws1.length + i]? = some p := fun i p hi => by
    rw [List.getElem?_append_right (by omega), Nat.add_sub_cancel_left]
    exact hi
  refine ⟨⟨⟨fun i j p q hi hj e => h.1 i j p q (l1 i p hi).2 (l1 j q hj).2 e, fun k q hk => h.2 k q (l1 k q hk).2⟩, fun i j p q hi hj e => ?_, fun k q hk => h.2 _ q (l2 k q hk)⟩, fun i j p q hi hj e => ?_⟩
  · have := h.1 _ _ p q (l2 i p hi) (l2 j q hj) e
    omega
  · have := h.1 _ _ p q (l1 i p hi).2 (l2 j q hj) e
    have := (l1 i p hi).1
    omega
theorem whole_start {p : Program} {e : Env} {s : State} {m : MethodId} {below : List Frame} {meth : Method} {c : Code} (l : Launch) (hflags : l.flags = flags0) {b L : Nat} {xs : Nat → Int32} (hL : L ≤ 3072) (C0 : lw_At p s m meth c b L xs) : W p l e room_1 s m #[Value.ref b] below meth c s.heap [] 0 0 (lw_Z below #[Value.ref b] s) (entryFrame m ([Value.ref b] : List Value).toArray 4) := by
  obtain ⟨hx, hb, hr, hml, hown, hts, hX, hbl, hlocks, hgv⟩ := id C0
  have htb : ∀ w ∈ am_tb, w.before #[Value.ref b] s = true := fun w hw => hts w (List.mem_filter.mp hw).1
  have hown : s.vm.findClass "CourseHouseLaw" = some m.cls := hown
  obtain ⟨D, cA, hK⟩ := lw_K hts
  have hN := lw_N hts
  have hl := lv_entry ([.ref b]) (n := 4) (show 1 ≤ 4 by decide)
  rw [lg_entry_eq]
  generalize (lg_sl ([.ref b]) ++ List.replicate (4 - (lg_sl ([.ref b])).length) Slot.unset).toArray = ls at hl ⊢
  have hA : ∀ q, s.heap.size ≤ q → (fun q => s.heap.size ≤ q) q := fun q h => h
  have hP0 : va_P D vwCl [] s.heap := fun k q hk => by
    rw [List.getElem?_nil] at hk
    cases hk
  have hD0 : va_D (fun q => s.heap.size ≤ q) [] := by
    refine ⟨fun i j x y hi hj e => ?_, fun k q hk => ?_⟩
    · rw [List.getElem?_nil] at hi
      cases hi
    · rw [List.getElem?_nil] at hk
      cases hk
  refine mk_obj (A := fun q => s.heap.size ≤ q) (own := "CourseHouseLaw") (ci := 5) (ws := []) (rest := []) (j := 9) hx hb hml hl.1 hown htb hK hN hP0 hD0 va_S.rf hA rfl lw_w7 cw_s6 cw_n6 cn_6 cY_6 (Or.inl lw_w9) ⟨by decide, by decide⟩ (Nat.le_of_ble_eq_true rfl) (Nat.le_of_ble_eq_true rfl) (by decide) dW_0 dW_3 dW_4 (fun adK H locs hP hD hS => ?_)
  rw [List.nil_append] at hP hD
  refine lv_astore_n (lv' := [(1, .ref (adK 0)), (0, .ref b)]) hx hb dW_7 rfl hl (by decide) rfl (fun ls hl => ?_)
  refine mk_obj (A := fun q => s.heap.size ≤ q) (own := "CourseHouseLaw") (ci := 6) (ws := am_wl cA adK ly6 287 (chS 287)) (rest := []) (j := 12) hx hb hml hl.1 hown htb hK hN hP hD hS hA rfl lw_w10 cw_s7 cw_n7 cn_7 cY_7 (Or.inl lw_w12) ⟨by decide, by decide⟩ (Nat.le_of_ble_eq_true rfl) (Nat.le_of_ble_eq_true rfl) (by decide) dW_8 dW_11 dW_12 (fun adM H locs hP hD hS => ?_)
  refine lv_astore_n (lv' := [(2, .ref (adM 0)), (1, .ref (adK 0)), (0, .ref b)]) hx hb dW_15 rfl hl (by decide) rfl (fun ls hl => ?_)
  refine lv_iconst (v := Int32.ofInt ((6 * 0 : Nat) : Int)) hx hb dW_16 rfl ?_
  refine lv_istore_n (lv' := [(3, .int (Int32.ofInt ((6 * 0 : Nat) : Int))), (2, .ref (adM 0)), (1, .ref (adK 0)), (0, .ref b)]) hx hb dW_17 rfl hl (by decide) rfl (fun ls hl => ?_)
  obtain ⟨hPC, hPM⟩ := lw_spl hP
  obtain ⟨⟨hDC, hDM⟩, hap⟩ := lw_spD hD
  have hDC2 : ∀ σ, va_D (fun q => s.heap.size ≤ q ∧ ∃ i, i < 287 ∧ q = adK (pi6 i)) (am_wl cA (fun o => adK (pi6 o)) lc 287 σ) := fun σ => va_D_any ((sg_D hDC).weaken (fun k q hk h => ⟨h, k, am_wl_ix hk⟩)) σ
  have hDM2 : ∀ σ, va_D (fun q => s.heap.size ≤ q ∧ ∃ i, i < 41 ∧ q = adM i) (am_wl cA adM lm 41 σ) := fun σ => va_D_any (hDM.weaken (fun k q hk h => ⟨h, k, am_wl_ix hk⟩)) σ
  have hdis : ∀ q, (s.heap.size ≤ q ∧ ∃ i, i < 287 ∧ q = adK (pi6 i)) → ¬ (s.heap.size ≤ q ∧ ∃ i, i < 41 ∧ q = adM i) := by
    rintro q ⟨_, i, hi, e1⟩ ⟨_, j, hj, e2⟩
    exact hap _ _ _ _ (am_wl_at (pi6_lt hi)) (am_wl_at hj) (e1.symm.trans e2)
  have hl4 : lv_has ls 4 [(3, .int (Int32.ofInt ((6 * 0 : Nat) : Int))), (0, .ref b), (1, .ref (adK 0)), (2, .ref (adM 0))] := by
    obtain ⟨h1, h2, h3⟩ := hl
    exact ⟨h1, h2, List.forall_mem_cons.mpr ⟨h3 _ (.head _), List.forall_mem_cons.mpr ⟨h3 _ (.tail _ (.tail _ (.tail _ (.head _)))), List.forall_mem_cons.mpr ⟨h3 _ (.tail _ (.tail _ (.head _))), List.forall_mem_cons.mpr ⟨h3 _ (.tail _ (.head _)), fun _ h => absurd h List.not_mem_nil⟩⟩⟩⟩⟩
  refine lw_loop (adC := fun o => adK (pi6 o)) (adM := adM) (A0 := fun q => s.heap.size ≤ q) ⟨hx, hb, hml, hown, htb, hK, hN.1, hDC2, hDM2, hdis, fun q h => h.1, fun q h => h.1, ⟨by decide, by decide⟩, hX, hbl, Nat.not_le.mpr hbl⟩ hL ⟨Nat.le_of_ble_eq_true rfl, Nat.le_of_ble_eq_true rfl⟩ (fun H1 locs1 ls hS1 => ?_) (L + 1) 0 (by omega) (by omega) tau0 sg0 H locs ls SR_00 hl4 (sg_P hPC) hPM hS
  refine va_forget (fun q hq => hS1.2.2 q hq) ?_
  refine W.widen (k := 600000) (n := 7302250) (Nat.le_of_ble_eq_true rfl) (Nat.le_of_ble_eq_true rfl) ?_
  refine lv_iconst (v := 1) hx hb dW_1030 (by decide) ?_
  exact lw_ret hx hb hr hlocks dW_1031
