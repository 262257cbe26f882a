/-! THE CLASS: what the steps of a rule make -/
def lE (E : Int → Vl) (l : List (NDn × Bool)) : List (Vl × Bool) := l.map (fun c => (c.1 E, c.2))
theorem lE_app (E : Int → Vl) (l : List (NDn × Bool)) (e : NDn) (f : Bool) : lE E (l ++ [(e, f)]) = lE E l ++ [(e E, f)] := by unfold lE; rw [List.map_append]; rfl
def PVx (E : Int → Vl) : Nat → List (NDn × Bool) → Prop
  | 0, l => ∃ e, l = [(e, false)] ∧ vok (e E)
  | 1, l => ∃ e, l = [(e, false)] ∧ vok (e E)
  | 2, l => l ≠ [] ∧ vok (comb 2 0 (ceL (lE E l)))
  | 3, l => l ≠ [] ∧ wok (prW (lE E l))
  | _ + 4, l => ∃ V : List Vl, lE E l = V.map (fun v => (v, false)) ∧ ∀ v ∈ V, vok v
def SVx (E : Int → Vl) (s : am_HS) (H : Nat) : Nat → List (NDn × Bool) → Prop
  | 0, l => ∃ e, l = [(e, false)] ∧ hL s 15 H = encV (e E)
  | 1, l => ∃ e, l = [(e, false)] ∧ hL s 15 H = encV (e E)
  | 2, l => hL s 15 H = encV (comb 2 0 (ceL (lE E l)))
  | 3, l => hL s 15 H = encW (prW (lE E l))
  | _ + 4, l => ∀ V : List Vl, lE E l = V.map (fun v => (v, false)) → LVs s H V
def hgx : Nat → List (NDn × Bool) → Nat → Nat
  | _ + 4, l, H => H + l.length
  | _, _, H => H + 1
theorem one_in {e e' : NDn} (h : [(e, false)] = [(e', false)]) : e = e' := by
  injection h with h1 h2
  injection h1
def RnP (d : Nat) (σ : am_HS) (B r : Nat) (E : Int → Vl) (m h s t : Nat) (l : List (NDn × Bool)) : Prop := s ≤ t ∧ 1 ≤ h ∧ (m = 4 → l.length ≤ h) ∧ PVx E m l ∧ ∀ (Q : Option am_V → am_HS → Prop) (H : Nat) (s0 : am_HS) (o5 o6 o7 o8 : Option am_V), H + h ≤ 600 → (t : Int) ≤ hI σ (21 + 9 * B) r → t ≤ 1200 → StF 0 602 σ s0 → (∀ (s1 : am_HS) (o5 o6 o7 o8 : Option am_V), StF H (602 - H) s0 s1 → SVx E s1 H m l → am_Go lc d 2 9 3 cX2_run 22 [some (vR (some 5)), some (vR (some (6 + B))), some (vI (r : Int)), some (vI (hgx m l H : Int)), some (vI (t : Int)), o5, o6, o7, o8] [] s1 Q) → am_Go lc d 2 9 3 cX2_run 22 [some (vR (some 5)), some (vR (some (6 + B))), some (vI (r : Int)), some (vI (H : Int)), some (vI (s : Int)), o5, o6, o7, o8] [] s0 Q
theorem StF.all {F n : Nat} {σ s0 s1 : am_HS} (h : StF 0 602 σ s0) (h1 : StF F n s0 s1) (hF : F + n ≤ 602) : StF 0 602 σ s1 := h.tr h1 ⟨Nat.zero_le _, by omega⟩
theorem cdT_at {σ : am_HS} {B k : Nat} {x y z : Int} (h : cdT σ B k = (x, y, z)) : hI σ (25 + 9 * B) k = x ∧ hI σ (26 + 9 * B) k = y ∧ hI σ (27 + 9 * B) k = z := ⟨congrArg (fun q => q.1) h, congrArg (fun q => q.2.1) h, congrArg (fun q => q.2.2) h⟩
theorem map_false {V W : List Vl} (h : V.map (fun v => (v, false)) = W.map (fun v => (v, false))) : V = W := by
  have := congrArg (fun l : List (Vl × Bool) => l.map (fun c => c.1)) h
  simp only [List.map_map] at this
  have e : (fun c : Vl × Bool => c.1) ∘ (fun v : Vl => (v, false)) = id := rfl
  rw [e, List.map_id, List.map_id] at this
  exact this
theorem run_cd {d : Nat} (hd : 6 ≤ d) {σ : am_HS} {b : Nat} (hf : σ.2.2 = cH b) {B : Nat} (hB : B < 2) {r : Nat} (hr : r < 12) {E : Int → Vl} (hE : ∀ v, vok (E v)) (hval : ∀ v : Int, ((0 ≤ v ∧ v < 22) ∧ hL σ 13 v.toNat = encV (E v)) ∨ (¬ (0 ≤ v ∧ v < 22) ∧ E v = vX)) {m h s t : Nat} {l : List (NDn × Bool)} (q : Cd (cdT σ B) m h s t l) : RnP d σ B r E m h s t l := by
  refine q (RnP d σ B r E) ?_
  unfold CdC
  refine ⟨?_, ?_, ?_, ?_, ?_, ?_, ?_, ?_, ?_, ?_, ?_, ?_, ?_, ?_⟩
  · -- put
    intro h s v q1 q2 q3
    obtain ⟨c1, c2, c3⟩ := cdT_at q1
    have hv1 : vok (vN v 1) := ⟨by show -1000000000 ≤ v; omega, by show v ≤ 1000000000; omega, by show (1 : Int) ≤ 1; decide, by show (1 : Int) ≤ 1000000000; decide, by show Int.gcd v 1 = 1; exact Int.gcd_one_right v⟩
    refine ⟨by omega, q3, fun z => absurd z (by decide), ⟨_, rfl, hv1⟩, fun Q H s0 o5 o6 o7 o8 hH ht ht2 hst hk => ?_⟩
    refine cc2_st_put hd hf hB hr s0 hst s H H v (by omega) (by omega) ⟨by omega, by omega⟩ (by omega) c1 c2 (by omega) q2 (fun o5 o6 o7 o8 => ?_) o5 o6 o7 o8
    exact hk _ _ _ _ _ ((StF.rf _ _ _).u ⟨by omega, by omega⟩) ⟨_, rfl, hL_uL_e (encV_r hv1)⟩
  · -- name
    intro h s v q1 q3
    obtain ⟨c1, c2, c3⟩ := cdT_at q1
    refine ⟨by omega, q3, fun z => absurd z (by decide), ⟨_, rfl, hE v⟩, fun Q H s0 o5 o6 o7 o8 hH ht ht2 hst hk => ?_⟩
    refine cc2_st_nam hd hf hB hr s0 hst s H H v (by omega) (by omega) ⟨by omega, by omega⟩ (by omega) c1 c2 (by omega) (x := encV (E v)) ?_ (fun o5 o6 o7 o8 => ?_) o5 o6 o7 o8
    · rcases hval v with ⟨z1, z2⟩ | ⟨z1, z2⟩
      · exact Or.inl ⟨z1, z2.symm⟩
      · exact Or.inr ⟨z1, by rw [z2]; rfl⟩
    · exact hk _ _ _ _ _ ((StF.rf _ _ _).u ⟨by omega, by omega⟩) ⟨_, rfl, hL_uL_e (encV_r (hE v))⟩
  · -- a product's first part
    intro h s t x q1
    obtain ⟨a1, a2, a3, ⟨e, rfl2, a4⟩, a5⟩ := q1
    have hx : x = (e, false) := by injection rfl2
    subst hx
    refine ⟨a1, a2, fun z => absurd z (by decide), ⟨by simp, ?_⟩, fun Q H s0 o5 o6 o7 o8 hH ht ht2 hst hk => a5 Q H s0 o5 o6 o7 o8 hH ht ht2 hst (fun s1 o5 o6 o7 o8 h1 h2 => hk s1 o5 o6 o7 o8 h1 ?_)⟩
    · show wok (prW [(e E, false)])
      rw [prW_one a4]
      exact a4
    · show hL s1 15 H = encW (prW [(e E, false)])
      rw [prW_one a4]
      obtain ⟨e', z1, z2⟩ := h2
      rw [one_in z1]
      exact z2
  · -- times
    intro h s t u l e q1 q2 q3
    obtain ⟨a1, a2, a3, ⟨a4, a5⟩, a6⟩ := q1
    obtain ⟨b1, b2, b3, ⟨e', b4, b5⟩, b6⟩ := q2
    rw [← one_in b4] at b5
    obtain ⟨c1, c2, c3⟩ := cdT_at q3
    refine ⟨by omega, a2, fun z => absurd z (by decide), ⟨by simp, ?_⟩, fun Q H s0 o5 o6 o7 o8 hH ht ht2 hst hk => ?_⟩
    · rw [lE_app, prW_mul]
      exact tmW_ok a5 b5
    · refine a6 Q H s0 o5 o6 o7 o8 hH (by omega) (by omega) hst (fun s1 o5 o6 o7 o8 h1 h2 => ?_)
      refine b6 Q (H + 1) s1 o5 o6 o7 o8 (by omega) (by omega) (by omega) (hst.all h1 (by omega)) (fun s2 o5 o6 o7 o8 h3 h4 => ?_)
      have e1 : hL s2 15 H = encW (prW (lE E l)) := (h3.2.2 15 H (by omega)).trans h2
      obtain ⟨e2, z1, z2⟩ := h4
      rw [← one_in z1] at z2
      refine cc2_st_times hd hf hB hr s2 ((hst.all h1 (by omega)).all h3 (by omega)) u (H + 2) H 0 (by omega) (by omega) ⟨by omega, by omega⟩ (by omega) c1 c2 (by omega) a5 b5 e1 z2 (fun o5 o6 o7 o8 => ?_) o5 o6 o7 o8
      refine hk _ _ _ _ _ ((h1.tr h3 ⟨by omega, by omega⟩).u ⟨by omega, by omega⟩) ?_
      show hL _ 15 H = encW (prW (lE E (l ++ [(e, false)])))
      rw [lE_app, prW_mul, hL_uL_e (encW_r (tmW_ok a5 b5))]
  · -- over
    intro h s t l v q1 q2 q3
    obtain ⟨a1, a2, a3, ⟨a4, a5⟩, a6⟩ := q1
    obtain ⟨c1, c2, c3⟩ := cdT_at q2
    refine ⟨by omega, a2, fun z => absurd z (by decide), ⟨by simp, ?_⟩, fun Q H s0 o5 o6 o7 o8 hH ht ht2 hst hk => ?_⟩
    · rw [lE_app, prW_div]
      exact ovW_ok a5 q3.1
    · refine a6 Q H s0 o5 o6 o7 o8 hH (by omega) (by omega) hst (fun s1 o5 o6 o7 o8 h1 h2 => ?_)
      refine cc2_st_over hd hf hB hr s1 (hst.all h1 (by omega)) t (H + 1) H v (by omega) (by omega) ⟨by omega, by omega⟩ (by omega) c1 c2 (by omega) a5 h2 q3 (fun o5 o6 o7 o8 => ?_) o5 o6 o7 o8
      refine hk _ _ _ _ _ (h1.u ⟨by omega, by omega⟩) ?_
      show hL _ 15 H = encW (prW (lE E (l ++ [(_, true)])))
      rw [lE_app, prW_div, hL_uL_e (encW_r (ovW_ok a5 q3.1))]
  · -- a product's end
    intro h s t l q1 q2
    obtain ⟨a1, a2, a3, ⟨a4, a5⟩, a6⟩ := q1
    obtain ⟨c1, c2, c3⟩ := cdT_at q2
    have ev : cmbL 3 0 l E = enW (prW (lE E l)) := by
      rw [cmbL_ce]
      exact (prW_end (lE E l) (fun z => a4 (List.map_eq_nil_iff.mp z))).symm
    have hvk : vok (cmbL 3 0 l E) := by rw [ev]; exact enW_ok a5
    refine ⟨by omega, a2, fun z => absurd z (by decide), ⟨_, rfl, hvk⟩, fun Q H s0 o5 o6 o7 o8 hH ht ht2 hst hk => ?_⟩
    refine a6 Q H s0 o5 o6 o7 o8 hH (by omega) (by omega) hst (fun s1 o5 o6 o7 o8 h1 h2 => ?_)
    refine cc2_st_ended hd hf hB hr s1 (hst.all h1 (by omega)) t (H + 1) H 0 (by omega) (by omega) ⟨by omega, by omega⟩ (by omega) c1 c2 (by omega) a5 h2 (fun o5 o6 o7 o8 => ?_) o5 o6 o7 o8
    refine hk _ _ _ _ _ (h1.u ⟨by omega, by omega⟩) ⟨_, rfl, ?_⟩
    rw [ev, hL_uL_e (encV_r (enW_ok a5))]
  · -- a product of one part
    intro h s t x q1
    obtain ⟨a1, a2, a3, ⟨e, rfl2, a4⟩, a5⟩ := q1
    have hx : x = (e, false) := by injection rfl2
    subst hx
    have ev : cmbL 3 0 [(e, false)] E = e E := by
      rw [cmbL_ce]
      show comb 3 0 (ceL [(e E, false)]) = e E
      rw [← prW_end _ (by simp), prW_one a4]
      rfl
    refine ⟨a1, a2, fun z => absurd z (by decide), ⟨_, rfl, by rw [ev]; exact a4⟩, fun Q H s0 o5 o6 o7 o8 hH ht ht2 hst hk => a5 Q H s0 o5 o6 o7 o8 hH ht ht2 hst (fun s1 o5 o6 o7 o8 h1 h2 => hk s1 o5 o6 o7 o8 h1 ⟨_, rfl, ?_⟩)⟩
    obtain ⟨e', z1, z2⟩ := h2
    rw [← one_in z1] at z2
    rw [ev]
    exact z2
  · -- a sum's first part
    intro h s t x q1
    obtain ⟨a1, a2, a3, ⟨e, rfl2, a4⟩, a5⟩ := q1
    have hx : x = (e, false) := by injection rfl2
    subst hx
    refine ⟨a1, a2, fun z => absurd z (by decide), ⟨by simp, ?_⟩, fun Q H s0 o5 o6 o7 o8 hH ht ht2 hst hk => a5 Q H s0 o5 o6 o7 o8 hH ht ht2 hst (fun s1 o5 o6 o7 o8 h1 h2 => hk s1 o5 o6 o7 o8 h1 ?_)⟩
    · show vok (comb 2 0 (ceL [(e E, false)]))
      rw [comb2_one a4]
      exact a4
    · show hL s1 15 H = encV (comb 2 0 (ceL [(e E, false)]))
      rw [comb2_one a4]
      obtain ⟨e', z1, z2⟩ := h2
      rw [one_in z1]
      exact z2
  · -- plus and minus
    intro h s t u l e mi q1 q2 q3
    obtain ⟨a1, a2, a3, ⟨a4, a5⟩, a6⟩ := q1
    obtain ⟨b1, b2, b3, ⟨e', b4, b5⟩, b6⟩ := q2
    rw [← one_in b4] at b5
    obtain ⟨c1, c2, c3⟩ := cdT_at q3
    have ev : comb 2 0 (ceL (lE E (l ++ [(e, mi)]))) = plV (comb 2 0 (ceL (lE E l))) (if mi = true then ngV (e E) else e E) := by
      rw [lE_app]
      exact comb2_snoc b5
    have hbk : vok (if mi = true then ngV (e E) else e E) := by
      cases mi
      · exact b5
      · exact ngV_ok b5
    have hvk := plV_ok a5 hbk
    refine ⟨by omega, a2, fun z => absurd z (by decide), ⟨by simp, by rw [ev]; exact hvk⟩, fun Q H s0 o5 o6 o7 o8 hH ht ht2 hst hk => ?_⟩
    refine a6 Q H s0 o5 o6 o7 o8 hH (by omega) (by omega) hst (fun s1 o5 o6 o7 o8 h1 h2 => ?_)
    refine b6 Q (H + 1) s1 o5 o6 o7 o8 (by omega) (by omega) (by omega) (hst.all h1 (by omega)) (fun s2 o5 o6 o7 o8 h3 h4 => ?_)
    have e1 : hL s2 15 H = encV (comb 2 0 (ceL (lE E l))) := (h3.2.2 15 H (by omega)).trans h2
    obtain ⟨e2, z1, z2⟩ := h4
    rw [← one_in z1] at z2
    have hfin : ∀ o5 o6 o7 o8 : Option am_V, am_Go lc d 2 9 3 cX2_run 22 [some (vR (some 5)), some (vR (some (6 + B))), some (vI (r : Int)), some (vI ((H + 1 : Nat) : Int)), some (vI ((u + 1 : Nat) : Int)), o5, o6, o7, o8] [] (uL s2 15 H (encV (plV (comb 2 0 (ceL (lE E l))) (if mi = true then ngV (e E) else e E)))) Q := fun o5 o6 o7 o8 => by
      refine hk _ _ _ _ _ ((h1.tr h3 ⟨by omega, by omega⟩).u ⟨by omega, by omega⟩) ?_
      show hL _ 15 H = encV (comb 2 0 (ceL (lE E (l ++ [(e, mi)]))))
      rw [ev, hL_uL_e (encV_r hvk)]
    cases mi
    · exact cc2_st_plus hd hf hB hr s2 ((hst.all h1 (by omega)).all h3 (by omega)) u (H + 2) H 0 (by omega) (by omega) ⟨by omega, by omega⟩ (by omega) c1 c2 (by omega) a5 b5 e1 z2 hfin o5 o6 o7 o8
    · exact cc2_st_minus hd hf hB hr s2 ((hst.all h1 (by omega)).all h3 (by omega)) u (H + 2) H 0 (by omega) (by omega) ⟨by omega, by omega⟩ (by omega) c1 c2 (by omega) a5 b5 e1 z2 hfin o5 o6 o7 o8
  · -- a sum's end
    intro h s t l q1
    obtain ⟨a1, a2, a3, ⟨a4, a5⟩, a6⟩ := q1
    have ev : cmbL 2 0 l E = comb 2 0 (ceL (lE E l)) := cmbL_ce 2 0 l E
    refine ⟨a1, a2, fun z => absurd z (by decide), ⟨_, rfl, by rw [ev]; exact a5⟩, fun Q H s0 o5 o6 o7 o8 hH ht ht2 hst hk => a6 Q H s0 o5 o6 o7 o8 hH ht ht2 hst (fun s1 o5 o6 o7 o8 h1 h2 => hk s1 o5 o6 o7 o8 h1 ⟨_, rfl, ?_⟩)⟩
    rw [ev]
    exact h2
  · -- a list's first sum
    intro h s t x q1
    obtain ⟨a1, a2, a3, ⟨e, rfl2, a4⟩, a5⟩ := q1
    have hx : x = (e, false) := by injection rfl2
    subst hx
    refine ⟨a1, a2, fun _ => a2, ⟨[e E], rfl, fun v hv => by rw [List.mem_singleton.mp hv]; exact a4⟩, fun Q H s0 o5 o6 o7 o8 hH ht ht2 hst hk => a5 Q H s0 o5 o6 o7 o8 hH ht ht2 hst (fun s1 o5 o6 o7 o8 h1 h2 => hk s1 o5 o6 o7 o8 h1 (fun V hV => ?_))⟩
    have hV2 : [e E] = V := map_false (V := [e E]) hV
    subst hV2
    intro k v hk2
    obtain ⟨e', z1, z2⟩ := h2
    rw [← one_in z1] at z2
    rcases k with _ | k
    · have : e E = v := by injection hk2
      rw [← this]
      exact z2
    · cases hk2
  · -- a list's next sum
    intro h s t u l e q1 q2 q3
    obtain ⟨a1, a2, a3, ⟨V, a4, a5⟩, a6⟩ := q1
    obtain ⟨b1, b2, b3, ⟨e', b4, b5⟩, b6⟩ := q2
    rw [← one_in b4] at b5
    have hlV : l.length = V.length := by
      have := congrArg List.length a4
      unfold lE at this
      rw [List.length_map, List.length_map] at this
      exact this
    have hmap : lE E (l ++ [(e, false)]) = (V ++ [e E]).map (fun v => (v, false)) := by
      rw [lE_app, a4, List.map_append]
      rfl
    refine ⟨by omega, a2, fun _ => by rw [List.length_append]; show l.length + 1 ≤ h + 10; omega, ⟨V ++ [e E], hmap, fun v hv => ?_⟩, fun Q H s0 o5 o6 o7 o8 hH ht ht2 hst hk => ?_⟩
    · rcases List.mem_append.mp hv with hv | hv
      · exact a5 v hv
      · rw [List.mem_singleton.mp hv]; exact b5
    · refine a6 Q H s0 o5 o6 o7 o8 hH (by omega) (by omega) hst (fun s1 o5 o6 o7 o8 h1 h2 => ?_)
      refine b6 Q (H + l.length) s1 o5 o6 o7 o8 (by omega) (by omega) (by omega) (hst.all h1 (by omega)) (fun s2 o5 o6 o7 o8 h3 h4 => ?_)
      have hlast := hk s2 o5 o6 o7 o8 (h1.tr h3 ⟨by omega, by omega⟩) (fun W hW => ?_)
      · have e1 : (hgx 4 (l ++ [(e, false)]) H : Nat) = hgx 0 [(e, false)] (H + l.length) := by
          show H + (l ++ [(e, false)]).length = H + l.length + 1
          rw [List.length_append]
          rfl
        rw [e1] at hlast
        exact hlast
      · have hVW : V ++ [e E] = W := map_false (hmap.symm.trans hW)
        subst hVW
        intro k v hkv
        have h2V := h2 V a4
        rcases Nat.lt_or_ge k V.length with z | z
        · rw [List.getElem?_append_left z] at hkv
          rw [h3.2.2 15 (H + k) (by omega)]
          exact h2V k v hkv
        · rw [List.getElem?_append_right z] at hkv
          obtain ⟨e2, z1, z2⟩ := h4
          rw [← one_in z1] at z2
          obtain ⟨j, hj⟩ : ∃ j, k = V.length + j := ⟨k - V.length, by omega⟩
          subst hj
          rw [show V.length + j - V.length = j by omega] at hkv
          rcases j with _ | j
          · have : e E = v := by injection hkv
            rw [← this, show H + (V.length + 0) = H + l.length by omega]
            exact z2
          · cases hkv
  · -- a list's end
    intro h s t l op v w q1 q2 q3 q4 q5 q6
    obtain ⟨a1, a2, a3, ⟨V, a4, a5⟩, a6⟩ := q1
    obtain ⟨c1, c2, c3⟩ := cdT_at q2
    have a3 := a3 rfl
    have hlV : l.length = V.length := by
      have := congrArg List.length a4
      unfold lE at this
      rw [List.length_map, List.length_map] at this
      exact this
    have ev : cmbL op w l E = comb op w (ceN V) := by
      rw [cmbL_ce]
      show comb op w (ceL (lE E l)) = _
      rw [a4]
      rfl
    have hvk : vok (comb op w (ceN V)) := comb_ok q6.2.2 (fun c hc => a5 c.1 (by rw [← ceN_fst V]; exact List.mem_map_of_mem hc)) (fun z => absurd z (by omega))
    refine ⟨by omega, a2, fun z => absurd z (by decide), ⟨_, rfl, by rw [ev]; exact hvk⟩, fun Q H s0 o5 o6 o7 o8 hH ht ht2 hst hk => ?_⟩
    refine a6 Q H s0 o5 o6 o7 o8 hH (by omega) (by omega) hst (fun s1 o5 o6 o7 o8 h1 h2 => ?_)
    have h2V := h2 V a4
    by_cases h8 : op ≤ 8
    · refine cc2_st_list hd hf hB hr s1 (hst.all h1 (by omega)) t (H + l.length) H v (n := l.length) (lop := op) (by omega) (by omega) ⟨by omega, by omega⟩ (by omega) c1 c2 (by omega) V hlV.symm rfl a5 h2V ⟨q3.1, h8⟩ w q6.2.2 (fun z => (q6.1 z).symm) (fun s2 o5 o6 o7 o8 h3 => ?_) o5 o6 o7 o8
      refine hk _ _ _ _ _ ((h1.tr h3 ⟨by omega, by omega⟩).u ⟨by omega, by omega⟩) ⟨_, rfl, ?_⟩
      rw [ev, hL_uL_e (encV_r hvk)]
    · have hl1 := q5 (by omega)
      have hwv := q6.1 (by omega)
      subst hwv
      obtain ⟨x, hx⟩ : ∃ x, V = [x] := List.length_eq_one_iff.mp (by omega)
      subst hx
      have hxv := a5 x (by simp)
      have hx0 : hL s1 15 H = encV x := h2V 0 x rfl
      by_cases h9 : op = 9
      · subst h9
        have ec : comb 9 w (ceN [x]) = cpV x w := by
          rcases x with _ | _ | p
          · rfl
          · rfl
          · rfl
        have e1 : hgx 4 l H = H + 1 := by show H + l.length = H + 1; omega
        rw [e1]
        refine cc2_st_cap hd hf hB hr s1 (hst.all h1 (by omega)) t (H + 1) H w (by omega) (by omega) ⟨by omega, by omega⟩ (by omega) c1 c2 (by rw [c3, hl1]; omega) hxv hx0 q6.2.2 (fun o5 o6 o7 o8 => ?_) o5 o6 o7 o8
        refine hk _ _ _ _ _ (h1.u ⟨by omega, by omega⟩) ⟨_, rfl, ?_⟩
        rw [ev, ec, hL_uL_e (encV_r (by rw [← ec]; exact hvk))]
      · have h10 : op = 10 := by omega
        subst h10
        have ec : comb 10 w (ceN [x]) = psV x w := by
          rcases x with _ | _ | p
          · rfl
          · rfl
          · rfl
        have e1 : hgx 4 l H = H + 1 := by show H + l.length = H + 1; omega
        rw [e1]
        refine cc2_st_pass hd hf hB hr s1 (hst.all h1 (by omega)) t (H + 1) H w (by omega) (by omega) ⟨by omega, by omega⟩ (by omega) c1 c2 (by rw [c3, hl1]; omega) hxv hx0 q6.2.2 (fun o5 o6 o7 o8 => ?_) o5 o6 o7 o8
        refine hk _ _ _ _ _ (h1.u ⟨by omega, by omega⟩) ⟨_, rfl, ?_⟩
        rw [ev, ec, hL_uL_e (encV_r (by rw [← ec]; exact hvk))]
  · -- more height
    intro m h h2 s t l q1 q2
    obtain ⟨a1, a2, a3, a4, a5⟩ := q1
    exact ⟨a1, by omega, fun z => by have := a3 z; omega, a4, fun Q H s0 o5 o6 o7 o8 hH ht ht2 hst hk => a5 Q H s0 o5 o6 o7 o8 (by omega) ht ht2 hst hk⟩
