/-! THE CLASS: steps whose names are tied -/
def tieN (pl : Int → Int) (e : NDn) : NDn := fun env => e (fun v => env (pl v))
def tieL (pl : Int → Int) (l : List (NDn × Bool)) : List (NDn × Bool) := l.map (fun q => (tieN pl q.1, q.2))
theorem tieL_app (pl : Int → Int) (l : List (NDn × Bool)) (e : NDn) (f : Bool) : tieL pl (l ++ [(e, f)]) = tieL pl l ++ [(tieN pl e, f)] := by unfold tieL; rw [List.map_append]; rfl
theorem tieL_len (pl : Int → Int) (l : List (NDn × Bool)) : (tieL pl l).length = l.length := List.length_map ..
theorem cmbL_tie (pl : Int → Int) (op w : Int) (l : List (NDn × Bool)) : cmbL op w (tieL pl l) = tieN pl (cmbL op w l) := by
  funext env
  unfold cmbL tieN tieL
  rw [List.map_map]
  rfl
theorem Cd.tie {c c' : CTb} {pl : Int → Int} {m h s t : Nat} {l : List (NDn × Bool)} (q : Cd c m h s t l) (hc : ∀ k, s ≤ k → k < t → c' k = if (c k).1 = 1 then (1, pl (c k).2.1, (c k).2.2) else c k) : Cd c' m h s t (tieL pl l) := by
  refine (q (fun m h s t l => s ≤ t ∧ ((∀ k, s ≤ k → k < t → c' k = if (c k).1 = 1 then (1, pl (c k).2.1, (c k).2.2) else c k) → Cd c' m h s t (tieL pl l))) ?_).2 hc
  have hno : ∀ {k : Nat} {x : Int × Int × Int}, c k = x → x.1 ≠ 1 → (c' k = if (c k).1 = 1 then (1, pl (c k).2.1, (c k).2.2) else c k) → c' k = x := fun h1 h2 h3 => by
    rw [h3, h1, if_neg h2]
  unfold CdC
  refine ⟨?_, ?_, ?_, ?_, ?_, ?_, ?_, ?_, ?_, ?_, ?_, ?_, ?_, ?_⟩
  · exact fun h s v q1 q2 q3 => ⟨by omega, fun hc => Cd.put (hno q1 (by show (0 : Int) ≠ 1; decide) (hc s (by omega) (by omega))) q2 q3⟩
  · refine fun h s v q1 q2 => ⟨by omega, fun hc => ?_⟩
    have := hc s (by omega) (by omega)
    rw [q1, if_pos rfl] at this
    exact Cd.nam this q2
  · exact fun h s t x q1 => ⟨q1.1, fun hc => Cd.p1 (q1.2 hc)⟩
  · refine fun h s t u l e q1 q2 q3 => ⟨by omega, fun hc => ?_⟩
    rw [tieL_app]
    exact Cd.pT (q1.2 fun k a b => hc k a (by omega)) (q2.2 fun k a b => hc k (by omega) (by omega)) (hno q3 (by show (4 : Int) ≠ 1; decide) (hc u (by omega) (by omega)))
  · refine fun h s t l v q1 q2 q3 => ⟨by omega, fun hc => ?_⟩
    rw [tieL_app]
    exact Cd.pO (q1.2 fun k a b => hc k a (by omega)) (hno q2 (by show (5 : Int) ≠ 1; decide) (hc t (by omega) (by omega))) q3
  · refine fun h s t l q1 q2 => ⟨by omega, fun hc => ?_⟩
    show Cd c' 1 h s (t + 1) [(tieN pl (cmbL 3 0 l), false)]
    rw [← cmbL_tie]
    exact Cd.pE (q1.2 fun k a b => hc k a (by omega)) (hno q2 (by show (13 : Int) ≠ 1; decide) (hc t (by omega) (by omega)))
  · refine fun h s t x q1 => ⟨q1.1, fun hc => ?_⟩
    show Cd c' 1 h s t [(tieN pl (cmbL 3 0 [x]), false)]
    rw [← cmbL_tie]
    exact Cd.pF (q1.2 hc)
  · exact fun h s t x q1 => ⟨q1.1, fun hc => Cd.s1 (q1.2 hc)⟩
  · refine fun h s t u l e mi q1 q2 q3 => ⟨by omega, fun hc => ?_⟩
    rw [tieL_app]
    exact Cd.sT (q1.2 fun k a b => hc k a (by omega)) (q2.2 fun k a b => hc k (by omega) (by omega)) (hno q3 (by show (if mi = true then (3 : Int) else 2) ≠ 1; cases mi <;> decide) (hc u (by omega) (by omega)))
  · refine fun h s t l q1 => ⟨q1.1, fun hc => ?_⟩
    show Cd c' 0 h s t [(tieN pl (cmbL 2 0 l), false)]
    rw [← cmbL_tie]
    exact Cd.sE (q1.2 hc)
  · exact fun h s t x q1 => ⟨q1.1, fun hc => Cd.c1 (q1.2 hc)⟩
  · refine fun h s t u l e q1 q2 q3 => ⟨by omega, fun hc => ?_⟩
    rw [tieL_app]
    exact Cd.cT (q1.2 fun k a b => hc k a (by omega)) (q2.2 fun k a b => hc k (by omega) (by omega)) (by rw [tieL_len]; exact q3)
  · refine fun h s t l op v w q1 q2 q3 q4 q5 q6 => ⟨by omega, fun hc => ?_⟩
    show Cd c' 0 h s (t + 1) [(tieN pl (cmbL op w l), false)]
    rw [← cmbL_tie]
    exact Cd.cE (q1.2 fun k a b => hc k a (by omega)) (by rw [tieL_len]; exact hno q2 (by show op + 2 ≠ 1; omega) (hc t (by omega) (by omega))) q3 (by rw [tieL_len]; exact q4) (by rw [tieL_len]; exact q5) q6
  · exact fun m h h2 s t l q1 q2 => ⟨q1.1, fun hc => Cd.up (q1.2 hc) q2⟩
theorem cmbL_dep {op w : Int} {l : List (NDn × Bool)} {env env' : Int → Vl} (h : ∀ q ∈ l, q.1 env = q.1 env') : cmbL op w l env = cmbL op w l env' := by
  unfold cmbL
  congr 1
  exact List.map_congr_left (fun q hq => by rw [h q hq])
theorem Cd.dep {c : CTb} {env env' : Int → Vl} {m h s t : Nat} {l : List (NDn × Bool)} (q : Cd c m h s t l) (hc : ∀ k, s ≤ k → k < t → (c k).1 = 1 → env (c k).2.1 = env' (c k).2.1) : ∀ x ∈ l, x.1 env = x.1 env' := by
  refine (q (fun m h s t l => s ≤ t ∧ ((∀ k, s ≤ k → k < t → (c k).1 = 1 → env (c k).2.1 = env' (c k).2.1) → ∀ x ∈ l, x.1 env = x.1 env')) ?_).2 hc
  have one : ∀ {e : NDn} {f : Bool}, e env = e env' → ∀ x ∈ [(e, f)], x.1 env = x.1 env' := fun h x hx => by
    rw [List.mem_singleton.mp hx]; exact h
  have app : ∀ {l : List (NDn × Bool)} {e : NDn} {f : Bool}, (∀ x ∈ l, x.1 env = x.1 env') → e env = e env' → ∀ x ∈ l ++ [(e, f)], x.1 env = x.1 env' := fun h1 h2 x hx => by
    rcases List.mem_append.mp hx with h | h
    · exact h1 x h
    · rw [List.mem_singleton.mp h]; exact h2
  unfold CdC
  refine ⟨?_, ?_, ?_, ?_, ?_, ?_, ?_, ?_, ?_, ?_, ?_, ?_, ?_, ?_⟩
  · exact fun h s v q1 q2 q3 => ⟨by omega, fun hc => one rfl⟩
  · refine fun h s v q1 q2 => ⟨by omega, fun hc => one ?_⟩
    have := hc s (by omega) (by omega) (by rw [q1])
    rw [q1] at this
    exact this
  · exact fun h s t x q1 => q1
  · exact fun h s t u l e q1 q2 q3 => ⟨by omega, fun hc => app (q1.2 fun k a b => hc k a (by omega)) (q2.2 (fun k a b => hc k (by omega) (by omega)) (e, false) (by simp))⟩
  · exact fun h s t l v q1 q2 q3 => ⟨by omega, fun hc => app (q1.2 fun k a b => hc k a (by omega)) rfl⟩
  · exact fun h s t l q1 q2 => ⟨by omega, fun hc => one (cmbL_dep (q1.2 fun k a b => hc k a (by omega)))⟩
  · exact fun h s t x q1 => ⟨q1.1, fun hc => one (cmbL_dep (q1.2 hc))⟩
  · exact fun h s t x q1 => q1
  · exact fun h s t u l e mi q1 q2 q3 => ⟨by omega, fun hc => app (q1.2 fun k a b => hc k a (by omega)) (q2.2 (fun k a b => hc k (by omega) (by omega)) (e, false) (by simp))⟩
  · exact fun h s t l q1 => ⟨q1.1, fun hc => one (cmbL_dep (q1.2 hc))⟩
  · exact fun h s t x q1 => q1
  · exact fun h s t u l e q1 q2 q3 => ⟨by omega, fun hc => app (q1.2 fun k a b => hc k a (by omega)) (q2.2 (fun k a b => hc k (by omega) (by omega)) (e, false) (by simp))⟩
  · exact fun h s t l op v w q1 q2 q3 q4 q5 q6 => ⟨by omega, fun hc => one (cmbL_dep (q1.2 fun k a b => hc k a (by omega)))⟩
  · exact fun m h h2 s t l q1 q2 => q1
theorem Cd.pv {c : CTb} {E : Int → Vl} (hE : ∀ v, vok (E v)) {m h s t : Nat} {l : List (NDn × Bool)} (q : Cd c m h s t l) : PVx E m l := by
  refine q (fun m _ _ _ l => PVx E m l) ?_
  unfold CdC
  refine ⟨?_, ?_, ?_, ?_, ?_, ?_, ?_, ?_, ?_, ?_, ?_, ?_, ?_, ?_⟩
  · exact fun h s v q1 q2 q3 => ⟨_, rfl, vN_ok ⟨by omega, by omega⟩⟩
  · exact fun h s v q1 q2 => ⟨_, rfl, hE v⟩
  · rintro h s t x ⟨e, e1, e2⟩
    have hx : x = (e, false) := by injection e1
    subst hx
    refine ⟨by simp, ?_⟩
    show wok (prW [(e E, false)])
    rw [prW_one e2]
    exact e2
  · rintro h s t u l e ⟨a4, a5⟩ ⟨e', b4, b5⟩ q3
    rw [← one_in b4] at b5
    refine ⟨by simp, ?_⟩
    rw [lE_app, prW_mul]
    exact tmW_ok a5 b5
  · rintro h s t l v ⟨a4, a5⟩ q2 q3
    refine ⟨by simp, ?_⟩
    rw [lE_app, prW_div]
    exact ovW_ok a5 q3.1
  · rintro h s t l ⟨a4, a5⟩ q2
    refine ⟨_, rfl, ?_⟩
    rw [cmbL_ce]
    show vok (comb 3 0 (ceL (lE E l)))
    rw [← prW_end (lE E l) (fun z => a4 (List.map_eq_nil_iff.mp z))]
    exact enW_ok a5
  · rintro h s t x ⟨e, e1, e2⟩
    have hx : x = (e, false) := by injection e1
    subst hx
    refine ⟨_, rfl, ?_⟩
    rw [cmbL_ce]
    show vok (comb 3 0 (ceL [(e E, false)]))
    rw [← prW_end _ (by simp), prW_one e2]
    exact e2
  · rintro h s t x ⟨e, e1, e2⟩
    have hx : x = (e, false) := by injection e1
    subst hx
    refine ⟨by simp, ?_⟩
    show vok (comb 2 0 (ceL [(e E, false)]))
    rw [comb2_one e2]
    exact e2
  · rintro h s t u l e mi ⟨a4, a5⟩ ⟨e', b4, b5⟩ q3
    rw [← one_in b4] at b5
    refine ⟨by simp, ?_⟩
    rw [lE_app, comb2_snoc b5]
    refine plV_ok a5 ?_
    cases mi
    · exact b5
    · exact ngV_ok b5
  · rintro h s t l ⟨a4, a5⟩
    refine ⟨_, rfl, ?_⟩
    rw [cmbL_ce]
    exact a5
  · rintro h s t x ⟨e, e1, e2⟩
    have hx : x = (e, false) := by injection e1
    subst hx
    exact ⟨[e E], rfl, fun v hv => by rw [List.mem_singleton.mp hv]; exact e2⟩
  · rintro h s t u l e ⟨V, a4, a5⟩ ⟨e', b4, b5⟩ q3
    rw [← one_in b4] at b5
    refine ⟨V ++ [e E], ?_, fun v hv => ?_⟩
    · rw [lE_app, a4, List.map_append]
      rfl
    · rcases List.mem_append.mp hv with hv | hv
      · exact a5 v hv
      · rw [List.mem_singleton.mp hv]; exact b5
  · rintro h s t l op v w ⟨V, a4, a5⟩ q2 q3 q4 q5 q6
    refine ⟨_, rfl, ?_⟩
    rw [cmbL_ce]
    show vok (comb op w (ceL (lE E l)))
    rw [a4]
    exact comb_ok q6.2.2 (fun c hc => a5 c.1 (by rw [← ceN_fst V]; exact List.mem_map_of_mem hc)) (fun z => absurd z (by omega))
  · exact fun m h h2 s t l q1 q2 => q1
theorem pRA_nm {T : Nat → Int × Int} : ∀ (m : Nat) (acc : List RU) (i : Nat) {acc' : List RU}, pRA T m acc i = .inr acc' → (∀ a ∈ acc, wkS a.1 < 0) → ∀ a ∈ acc', wkS a.1 < 0
  | 0, _, _, _, h, _ => by cases h
  | m + 1, acc, i, acc', h, hA => by
    have e0 : pRA T (m + 1) acc i = if (T i).1 = 2 ∧ fnS (T i).2 = 0 ∧ wkS (T i).2 < 0 ∧ acc.length ≠ 12 then
      (if T (i + 1) = (3, 61) then (match pS T 8 (i + 2) with
        | .inl g => .inl g
        | .inr q => if T q.2 = (3, 59) then (if (T (q.2 + 1)).1 = 0 then .inr (acc ++ [((T i).2, (q.1, (i + 2, q.2)))]) else pRA T m (acc ++ [((T i).2, (q.1, (i + 2, q.2)))]) (q.2 + 1)) else .inl q.2) else .inl (i + 1)) else .inl i := rfl
    rw [e0] at h
    by_cases h1 : (T i).1 = 2 ∧ fnS (T i).2 = 0 ∧ wkS (T i).2 < 0 ∧ acc.length ≠ 12
    · rw [if_pos h1] at h
      by_cases h2 : T (i + 1) = (3, 61)
      · rw [if_pos h2] at h
        cases hp : pS T 8 (i + 2) with
        | inl g => rw [hp] at h; cases h
        | inr q =>
          rw [hp] at h
          dsimp only at h
          have hA2 : ∀ a ∈ acc ++ [((T i).2, (q.1, (i + 2, q.2)))], wkS a.1 < 0 := fun a ha => by
            rcases List.mem_append.mp ha with z | z
            · exact hA a z
            · rw [List.mem_singleton.mp z]; exact h1.2.2.1
          by_cases h3 : T q.2 = (3, 59)
          · rw [if_pos h3] at h
            by_cases h4 : (T (q.2 + 1)).1 = 0
            · rw [if_pos h4] at h
              injection h with h
              rw [← h]
              exact hA2
            · rw [if_neg h4] at h
              exact pRA_nm m _ _ h hA2
          · rw [if_neg h3] at h; cases h
      · rw [if_neg h2] at h; cases h
    · rw [if_neg h1] at h; cases h
