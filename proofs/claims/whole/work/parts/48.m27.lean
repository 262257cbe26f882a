/-! THE REFERENCE: reading, small methods -/
/-- what reading may change, from the c-th node of a book on -/
def scP (oth c o j : Nat) : Prop := (o = 0 ∧ (24 ≤ j ∧ j ≤ 27 ∨ j = 29 ∨ j = 36)) ∨ (o = 27 ∧ j = oth) ∨ (17 ≤ o ∧ o ≤ 22 ∧ 1600 * oth + c ≤ j ∧ j < 1600 * oth + 1600)
def PFr (oth c : Nat) (σ s : am_HS) : Prop := s.2 = σ.2 ∧ ∀ o j, ¬ scP oth c o j → hI s o j = hI σ o j
theorem PFr.rf (oth c : Nat) (σ : am_HS) : PFr oth c σ σ := ⟨rfl, fun _ _ _ => rfl⟩
theorem PFr.tr {oth c c2 : Nat} {σ s u : am_HS} (h : PFr oth c σ s) (h2 : PFr oth c2 s u) (hc : c ≤ c2) : PFr oth c σ u := ⟨h2.1.trans h.1, fun o j k => (h2.2 o j (fun q => k (by unfold scP at *; omega))).trans (h.2 o j k)⟩
theorem PFr.u {oth c : Nat} {σ s : am_HS} (h : PFr oth c σ s) {o j : Nat} {x : Int} (hj : scP oth c o j) : PFr oth c σ (uI s o j x) := ⟨h.1, fun a b k => (hI_uI_n (fun q => k (by rw [q.1, q.2]; exact hj))).trans (h.2 a b k)⟩
theorem FrW.pf {oth c : Nat} {σ s : am_HS} (h : FrW σ s) : PFr oth c σ s := ⟨h.1, fun o j k => h.2 o j (fun q => k (by unfold scP; omega))⟩
/-- while reading: what stands -/
def PFx (oth n : Nat) (tx : Nat → Int) (s : am_HS) : Prop := s.2.2 = mH ∧ rgM s ∧ hI s 0 43 = (oth : Int) ∧ hI s 0 28 = (n : Int) ∧ (∀ j, hI s 16 j = tx j) ∧ oth < 2 ∧ n ≤ 600
theorem PFx.of {oth n c : Nat} {tx : Nat → Int} {σ s : am_HS} (h : PFx oth n tx σ) (f : PFr oth c σ s) (hb : rgM s) : PFx oth n tx s := by
  obtain ⟨h1, h2, h3, h4, h5, h6, h7⟩ := h
  exact ⟨(by rw [f.1]; exact h1), hb, (f.2 0 43 (by unfold scP; omega)).trans h3, (f.2 0 28 (by unfold scP; omega)).trans h4, fun j => (f.2 16 j (by unfold scP; omega)).trans (h5 j), h6, h7⟩
/-- a word is looked at, no fault yet -/
def PFi (tx : Nat → Int) (n i : Nat) (s : am_HS) : Prop := WdM (tkS tx n (psS tx n i)) s ∧ i ≤ psS tx n i ∧ hI s 0 29 < 0
theorem PFi.le {tx : Nat → Int} {n i : Nat} {s : am_HS} (h : PFi tx n i s) : i ≤ n := by
  have := psS_le tx n i
  have := h.2.1
  omega
theorem PFi.of {tx : Nat → Int} {n i : Nat} {σ s : am_HS} (h : PFi tx n i σ) (he : ∀ j, (24 ≤ j ∧ j ≤ 27 ∨ j = 29) → hI s 0 j = hI σ 0 j) : PFi tx n i s := by
  obtain ⟨⟨h1, h2, h3⟩, h4, h5⟩ := h
  refine ⟨⟨?_, ?_, fun hk => ?_⟩, h4, ?_⟩
  · rw [he 24 (by omega)]; exact h1
  · rw [he 25 (by omega)]; exact h2
  · rw [he 26 (by omega), he 27 (by omega)]; exact h3 hk
  · rw [he 29 (by omega)]; exact h5
theorem PFi.w {tx : Nat → Int} {n i : Nat} {s : am_HS} (h : PFi tx n i s) : hI s 0 24 = (tkT tx n i).1 := h.1.1
theorem PFi.v {tx : Nat → Int} {n i : Nat} {s : am_HS} (h : PFi tx n i s) (hk : (tkT tx n i).1 ≠ 4) : hI s 0 26 = (tkT tx n i).2 := (h.1.2.2 hk).1
theorem PFi.p {tx : Nat → Int} {n i : Nat} {s : am_HS} (h : PFi tx n i s) : hI s 0 25 = (plT tx n i : Int) := h.1.2.1
theorem tk3 {tx : Nat → Int} {n i : Nat} {c : Int} (h : tkT tx n i = (3, c)) : (tkT tx n i).1 ≠ 0 ∧ (tkT tx n i).1 ≠ 4 := by
  rw [h]
  exact ⟨show (3 : Int) ≠ 0 by decide, show (3 : Int) ≠ 4 by decide⟩
theorem PFi.sg {tx : Nat → Int} {n i : Nat} {s : am_HS} (h : PFi tx n i s) (c : Int) : (hI s 0 24 = 3 ∧ hI s 0 26 = c) ↔ tkT tx n i = (3, c) := by
  rw [h.w]
  constructor
  · intro ⟨a, b⟩
    rw [h.v (by rw [a]; decide)] at b
    exact Prod.ext a b
  · intro e
    rw [e]
    refine ⟨rfl, ?_⟩
    rw [h.v (tk3 e).2, e]
/-- what reading a part comes to -/
def PQ (oth n : Nat) (tx : Nat → Int) (f c i : Nat) (σ : am_HS) (res : PR) (z : Int) (s : am_HS) : Prop := PFx oth n tx s ∧ PFr oth c σ s ∧ match res with
  | .inl g => z = -1 ∧ hI s 0 29 = (plT tx n g : Int)
  | .inr q => PFi tx n q.2 s ∧ i < q.2 ∧ z = ((1600 * oth + c : Nat) : Int) ∧ hI s 20 (1600 * oth + c) = -1 ∧ hI s 22 (1600 * oth + c) = 0 ∧ ∃ c' : Nat, hI s 0 36 = (c' : Int) ∧ c < c' ∧ c' ≤ 2 * q.2 + 1 ∧ NdP (tdM s) f (1600 * oth + c) (1600 * oth + c') q.1 ∧ NmP (tdM s) (tkT tx n) (1600 * oth + c) (1600 * oth + c') i q.2 ∧ (hI s 27 oth = 1 ↔ hI σ 27 oth = 1 ∨ ∃ l, i ≤ l ∧ l < q.2 ∧ tkT tx n l = (3, 45))
def POK (oth n : Nat) (tx : Nat → Int) (f D mi bnd : Nat) (deep : Int) (pr : Nat → PR) : Prop := ∀ (i c : Nat) (s : am_HS), PFx oth n tx s → PFi tx n i s → hI s 0 36 = (c : Int) → c ≤ 2 * i + bnd → am_Do lm D mi s [vR (some 0), vI deep] (qI fun z u => PQ oth n tx f c i s (pr i) z u)
theorem cm_isSign {D : Nat} (hD : 1 ≤ D) (σ : am_HS) (c : Int) : am_Do lm D mX7_isSign σ [vR (some 0), vI c] (qI fun z s => (z = 1 ∧ (hI σ 0 24 = 3 ∧ hI σ 0 26 = c) ∨ z = 0 ∧ ¬ (hI σ 0 24 = 3 ∧ hI σ 0 26 = c)) ∧ s = σ) := by
  obtain ⟨d, rfl⟩ : ∃ d, D = d + 1 := ⟨D - 1, by omega⟩
  refine am_enter rfl rfl (Nat.le_of_ble_eq_true rfl) ?_
  refine g_aload_n dX7_isSign_0 rfl ?_
  refine g_getI dX7_isSign_1 tf_7_181 rfl rfl ?_
  refine g_iconst dX7_isSign_4 ⟨by decide, by decide⟩ ?_
  refine g_icmp_ne (tgt := 20) dX7_isSign_5 (by decide) (fun c5 => ?_) (fun c5 => ?_)
  · refine g_iconst dX7_isSign_20 ⟨by decide, by decide⟩ ?_
    refine g_ireturn dX7_isSign_21 (Or.inr ⟨rfl, by omega⟩) ⟨_, rfl, ?_⟩
    exact ⟨by omega, rfl⟩
  · refine g_aload_n dX7_isSign_8 rfl ?_
    refine g_getI dX7_isSign_9 tf_7_178 rfl rfl ?_
    refine g_iload_n dX7_isSign_12 rfl ?_
    refine g_icmp_ne (tgt := 20) dX7_isSign_13 (by decide) (fun c13 => ?_) (fun c13 => ?_)
    · refine g_iconst dX7_isSign_20 ⟨by decide, by decide⟩ ?_
      refine g_ireturn dX7_isSign_21 (Or.inr ⟨rfl, by omega⟩) ⟨_, rfl, ?_⟩
      exact ⟨by omega, rfl⟩
    · refine g_iconst dX7_isSign_16 ⟨by decide, by decide⟩ ?_
      refine g_goto (tgt := 21) dX7_isSign_17 (by decide) ?_
      refine g_ireturn dX7_isSign_21 (Or.inr ⟨rfl, by omega⟩) ⟨_, rfl, ?_⟩
      exact ⟨by omega, rfl⟩
theorem cm_isFine {D : Nat} (hD : 1 ≤ D) (σ : am_HS)  : am_Do lm D mX7_isFine σ [vR (some 0)] (qI fun z s => (z = 1 ∧ hI σ 0 29 < 0 ∨ z = 0 ∧ 0 ≤ hI σ 0 29) ∧ s = σ) := by
  obtain ⟨d, rfl⟩ : ∃ d, D = d + 1 := ⟨D - 1, by omega⟩
  refine am_enter rfl rfl (Nat.le_of_ble_eq_true rfl) ?_
  refine g_aload_n dX7_isFine_0 rfl ?_
  refine g_getI dX7_isFine_1 tf_7_190 rfl rfl ?_
  refine g_if_ge (tgt := 11) dX7_isFine_4 (by decide) (fun c4 => ?_) (fun c4 => ?_)
  · refine g_iconst dX7_isFine_11 ⟨by decide, by decide⟩ ?_
    refine g_ireturn dX7_isFine_12 (Or.inr ⟨rfl, by omega⟩) ⟨_, rfl, ?_⟩
    exact ⟨by omega, rfl⟩
  · refine g_iconst dX7_isFine_7 ⟨by decide, by decide⟩ ?_
    refine g_goto (tgt := 12) dX7_isFine_8 (by decide) ?_
    refine g_ireturn dX7_isFine_12 (Or.inr ⟨rfl, by omega⟩) ⟨_, rfl, ?_⟩
    exact ⟨by omega, rfl⟩

theorem cm_faults {D : Nat} (hD : 1 ≤ D) (σ : am_HS) (h : hI σ 0 29 < 0) : am_Do lm D mX7_faults σ [vR (some 0)] (qI fun z s => z = -1 ∧ s = uI σ 0 29 (hI σ 0 25)) := by
  obtain ⟨d, rfl⟩ : ∃ d, D = d + 1 := ⟨D - 1, by omega⟩
  refine am_enter rfl rfl (Nat.le_of_ble_eq_true rfl) ?_
  refine g_aload_n dX7_faults_0 rfl ?_
  refine g_getI dX7_faults_1 tf_7_190 rfl rfl ?_
  refine g_if_ge (tgt := 15) dX7_faults_4 (by decide) (fun c4 => ?_) (fun c4 => ?_)
  · exfalso; omega
  · refine g_aload_n dX7_faults_7 rfl ?_
    refine g_aload_n dX7_faults_8 rfl ?_
    refine g_getI dX7_faults_9 tf_7_175 rfl rfl ?_
    refine g_putI dX7_faults_12 tf_7_190 rfl rfl rfl ?_
    refine g_iconst dX7_faults_15 ⟨by decide, by decide⟩ ?_
    refine g_ireturn dX7_faults_16 (Or.inl rfl) ⟨_, rfl, ?_⟩
    exact ⟨rfl, rfl⟩

theorem cm_isSignP {D : Nat} (hD : 1 ≤ D) {tx : Nat → Int} {n i : Nat} (σ : am_HS) (h : PFi tx n i σ) (c : Int) : am_Do lm D mX7_isSign σ [vR (some 0), vI c] (qI fun z s => (z = 1 ∧ tkT tx n i = (3, c) ∨ z = 0 ∧ tkT tx n i ≠ (3, c)) ∧ s = σ) :=
  am_Do.mono (cm_isSign hD σ c) (fun _ _ ⟨z, e, a, b⟩ => ⟨z, e, a.imp (fun q => ⟨q.1, (h.sg c).mp q.2⟩) (fun q => ⟨q.1, fun q2 => q.2 ((h.sg c).mpr q2)⟩), b⟩)
theorem cm_readsP {D : Nat} (hD : 2 ≤ D) {oth n i : Nat} {tx : Nat → Int} (σ : am_HS) (h : PFx oth n tx σ) (hi : PFi tx n i σ) (hk : (tkT tx n i).1 ≠ 0 ∧ (tkT tx n i).1 ≠ 4) : am_Do lm D mX7_reads σ [vR (some 0)] (qV fun s => FrW σ s ∧ PFx oth n tx s ∧ PFi tx n (i + 1) s) := by
  obtain ⟨h1, h2, h3, h4, h5, h6, h7⟩ := id h
  refine am_Do.mono (cm_reads hD σ h1 h2 n (psS tx n (i + 1)) h4 h7 (hi.1.2.2 hk.2).2 (psS_le tx n (i + 1))) (fun _ s ⟨e, a, b⟩ => ⟨e, a, h.of (oth := oth) (c := 0) a.pf (a.rg h2), ?_⟩)
  have e16 : (fun j => hI σ 16 j) = tx := funext h5
  rw [e16] at b
  refine ⟨b, psS_up hi.2.1 hk.1, ?_⟩
  rw [a.2 0 29 (by omega)]
  exact hi.2.2
theorem PFx.flt {oth n : Nat} {tx : Nat → Int} {s : am_HS} (h : PFx oth n tx s) (x : Int) (hx : rI x) : PFx oth n tx (uI s 0 29 x) := h.of (c := 0) ((PFr.rf oth 0 s).u (by unfold scP; omega)) (h.2.1.u ⟨by have := hx.1; show (-2147483648 : Int) ≤ x; omega, by have := hx.2; show x ≤ (2147483647 : Int); omega⟩)
/-- a fault, where a word is looked at -/
theorem cm_faultsP {D : Nat} (hD : 1 ≤ D) {oth n i : Nat} {tx : Nat → Int} (σ : am_HS) (h : PFx oth n tx σ) (hi : PFi tx n i σ) : am_Do lm D mX7_faults σ [vR (some 0)] (qI fun z s => z = -1 ∧ PFx oth n tx s ∧ (∀ c, PFr oth c σ s) ∧ hI s 0 29 = (plT tx n i : Int)) := by
  refine am_Do.mono (cm_faults hD σ hi.2.2) (fun _ _ ⟨z, e, a, b⟩ => ⟨z, e, a, ?_⟩)
  have hr := hI_r σ 0 25
  subst b
  exact ⟨h.flt _ hr, fun c => (PFr.rf oth c σ).u (by unfold scP; omega), by rw [hI_uI_e hr, hi.p]⟩
/-- a sign that must stand -/
def MsQ (oth n : Nat) (tx : Nat → Int) (i : Nat) (c : Int) (σ s : am_HS) : Prop := PFx oth n tx s ∧ (tkT tx n i = (3, c) ∧ FrW σ s ∧ PFi tx n (i + 1) s ∨ tkT tx n i ≠ (3, c) ∧ (∀ c, PFr oth c σ s) ∧ hI s 0 29 = (plT tx n i : Int))
theorem cm_mustP {D : Nat} (hD : 3 ≤ D) {oth n i : Nat} {tx : Nat → Int} (σ : am_HS) (h : PFx oth n tx σ) (hi : PFi tx n i σ) (c : Int) : am_Do lm D mX7_must σ [vR (some 0), vI c] (qV fun s => MsQ oth n tx i c σ s) := by
  have h29 := hi.2.2
  obtain ⟨d, rfl⟩ : ∃ d, D = d + 1 := ⟨D - 1, by omega⟩
  refine am_enter rfl rfl (Nat.le_of_ble_eq_true rfl) ?_
  refine g_aload_n dX7_must_0 rfl ?_
  refine g_callvI dX7_must_1 tm_7_193 rfl ⟨rfl, rfl⟩ rfl (Nat.le_of_ble_eq_true rfl) (cm_isFine (by omega) _) (fun z1 s1 h1 => ?_)
  obtain ⟨h1, e1⟩ := h1
  obtain rfl := e1.symm
  refine g_if_ne (tgt := 8) dX7_must_4 (by decide) (fun c4 => ?_) (fun c4 => ?_)
  · refine g_aload_n dX7_must_8 rfl ?_
    refine g_iload_n dX7_must_9 rfl ?_
    refine g_callvI dX7_must_10 tm_7_197 rfl ⟨rfl, rfl⟩ rfl (Nat.le_of_ble_eq_true rfl) (cm_isSignP (by omega) σ hi c) (fun z10 s10 h10 => ?_)
    obtain ⟨h10, e10⟩ := h10
    obtain rfl := e10.symm
    refine g_if_eq (tgt := 23) dX7_must_13 (by decide) (fun c13 => ?_) (fun c13 => ?_)
    · refine g_aload_n dX7_must_23 rfl ?_
      refine g_callvI dX7_must_24 tm_7_203 rfl ⟨rfl, rfl⟩ rfl (Nat.le_of_ble_eq_true rfl) (cm_faultsP (by omega) σ h hi) (fun z24 s24 h24 => ?_)
      refine g_pop dX7_must_27 rfl ?_
      refine g_return dX7_must_28 rfl ⟨rfl, ?_⟩
      first
        | exact ⟨h17.2.1, Or.inl ⟨by rcases h10 with ⟨a, b⟩ | ⟨a, b⟩; exact b; exact absurd a c13, h17.1, h17.2.2⟩⟩
        | exact ⟨h24.2.1, Or.inr ⟨by rcases h10 with ⟨a, b⟩ | ⟨a, b⟩; exact absurd (a.symm.trans c13) (by decide); exact b, h24.2.2.1, h24.2.2.2⟩⟩
    · refine g_aload_n dX7_must_16 rfl ?_
      refine g_callvV dX7_must_17 tm_7_200 rfl ⟨rfl, rfl⟩ rfl (Nat.le_of_ble_eq_true rfl) (cm_readsP (by omega) σ h hi (by rcases h10 with ⟨a, b⟩ | ⟨a, b⟩; exact tk3 b; exact absurd a c13)) (fun s17 h17 => ?_)
      refine g_goto (tgt := 28) dX7_must_20 (by decide) ?_
      refine g_return dX7_must_28 rfl ⟨rfl, ?_⟩
      first
        | exact ⟨h17.2.1, Or.inl ⟨by rcases h10 with ⟨a, b⟩ | ⟨a, b⟩; exact b; exact absurd a c13, h17.1, h17.2.2⟩⟩
        | exact ⟨h24.2.1, Or.inr ⟨by rcases h10 with ⟨a, b⟩ | ⟨a, b⟩; exact absurd (a.symm.trans c13) (by decide); exact b, h24.2.2.1, h24.2.2.2⟩⟩
  · exfalso; omega

theorem cm_mustN {D : Nat} (hD : 3 ≤ D) (σ : am_HS) (h29 : 0 ≤ hI σ 0 29) (c : Int) : am_Do lm D mX7_must σ [vR (some 0), vI c] (qV fun s => s = σ) := by
  obtain ⟨d, rfl⟩ : ∃ d, D = d + 1 := ⟨D - 1, by omega⟩
  refine am_enter rfl rfl (Nat.le_of_ble_eq_true rfl) ?_
  refine g_aload_n dX7_must_0 rfl ?_
  refine g_callvI dX7_must_1 tm_7_193 rfl ⟨rfl, rfl⟩ rfl (Nat.le_of_ble_eq_true rfl) (cm_isFine (by omega) _) (fun z1 s1 h1 => ?_)
  obtain ⟨h1, e1⟩ := h1
  obtain rfl := e1.symm
  refine g_if_ne (tgt := 8) dX7_must_4 (by decide) (fun c4 => ?_) (fun c4 => ?_)
  · exfalso; omega
  · refine g_return dX7_must_7 rfl ⟨rfl, ?_⟩
    rfl
/-- a new node -/
def ndS (σ : am_HS) (x c : Nat) (what v : Int) : am_HS := uI (uI (uI (uI (uI (uI (uI σ 0 36 (c + 1)) 17 x what) 18 x v) 19 x (-1)) 20 x (-1)) 21 x (-1)) 22 x 0
theorem ndS_o {σ : am_HS} {x c : Nat} {what v : Int} {o j : Nat} (h : ¬ (o = 0 ∧ j = 36)) (h2 : ¬ (17 ≤ o ∧ o ≤ 22 ∧ j = x)) : hI (ndS σ x c what v) o j = hI σ o j := by
  unfold ndS
  rw [hI_uI_n (by omega), hI_uI_n (by omega), hI_uI_n (by omega), hI_uI_n (by omega), hI_uI_n (by omega), hI_uI_n (by omega), hI_uI_n (by omega)]
theorem ndS_36 {σ : am_HS} {x c : Nat} {what v : Int} (hc : c < 2000) : hI (ndS σ x c what v) 0 36 = ((c + 1 : Nat) : Int) := by
  unfold ndS
  rw [hI_uI_n (by omega), hI_uI_n (by omega), hI_uI_n (by omega), hI_uI_n (by omega), hI_uI_n (by omega), hI_uI_n (by omega), hI_uI_e ⟨by omega, by omega⟩]
  omega
theorem ndS_17 {σ : am_HS} {x c : Nat} {what v : Int} (hw : rI what) : hI (ndS σ x c what v) 17 x = what := by
  unfold ndS
  rw [hI_uI_n (by omega), hI_uI_n (by omega), hI_uI_n (by omega), hI_uI_n (by omega), hI_uI_n (by omega), hI_uI_e hw]
theorem ndS_18 {σ : am_HS} {x c : Nat} {what v : Int} (hw : rI v) : hI (ndS σ x c what v) 18 x = v := by
  unfold ndS
  rw [hI_uI_n (by omega), hI_uI_n (by omega), hI_uI_n (by omega), hI_uI_n (by omega), hI_uI_e hw]
theorem ndS_19 {σ : am_HS} {x c : Nat} {what v : Int} : hI (ndS σ x c what v) 19 x = -1 := by
  unfold ndS
  rw [hI_uI_n (by omega), hI_uI_n (by omega), hI_uI_n (by omega), hI_uI_e ⟨by omega, by omega⟩]
theorem ndS_20 {σ : am_HS} {x c : Nat} {what v : Int} : hI (ndS σ x c what v) 20 x = -1 := by
  unfold ndS
  rw [hI_uI_n (by omega), hI_uI_n (by omega), hI_uI_e ⟨by omega, by omega⟩]
theorem ndS_22 {σ : am_HS} {x c : Nat} {what v : Int} : hI (ndS σ x c what v) 22 x = 0 := by
  unfold ndS
  rw [hI_uI_e ⟨by omega, by omega⟩]
theorem rg_free {o : Nat} (h : o = 0 ∨ (17 ≤ o ∧ o ≤ 21)) {x : Int} (hx : rI x) : bl o ≤ x ∧ x ≤ bh o := by
  obtain ⟨h1, h2⟩ := hx
  have e : o = 0 ∨ o = 17 ∨ o = 18 ∨ o = 19 ∨ o = 20 ∨ o = 21 := by omega
  rcases e with rfl | rfl | rfl | rfl | rfl | rfl <;> exact ⟨h1, h2⟩
theorem ndS_rg {σ : am_HS} {x c : Nat} {what v : Int} (hb : rgM σ) (hc : c < 2000) (hw : rI what) (hv : rI v) : rgM (ndS σ x c what v) := by
  unfold ndS
  have m1 : rI (-1) := ⟨by decide, by decide⟩
  exact ((((((hb.u (rg_free (by omega) ⟨by omega, by omega⟩)).u (rg_free (by omega) hw)).u (rg_free (by omega) hv)).u (rg_free (by omega) m1)).u (rg_free (by omega) m1)).u (rg_free (by omega) m1)).u ⟨by decide, by decide⟩
theorem ndS_fr {σ : am_HS} {oth c : Nat} {what v : Int} (hc : c < 1600) : PFr oth c σ (ndS σ (1600 * oth + c) c what v) := by
  unfold ndS
  exact (((((((PFr.rf oth c σ).u (by unfold scP; omega)).u (by unfold scP; omega)).u (by unfold scP; omega)).u (by unfold scP; omega)).u (by unfold scP; omega)).u (by unfold scP; omega)).u (by unfold scP; omega)
theorem cm_node {D : Nat} (hD : 1 ≤ D) {oth c : Nat} (σ : am_HS) (hf : σ.2.2 = mH) (ho : hI σ 0 43 = (oth : Int)) (hc : hI σ 0 36 = (c : Int)) (ho2 : oth < 2) (hc2 : c < 1600) (what v : Int) : am_Do lm D mX7_node σ [vR (some 0), vI what, vI v] (qI fun z s => z = ((1600 * oth + c : Nat) : Int) ∧ s = ndS σ (1600 * oth + c) c what v) := by
  obtain ⟨d, rfl⟩ : ∃ d, D = d + 1 := ⟨D - 1, by omega⟩
  refine am_enter rfl rfl (Nat.le_of_ble_eq_true rfl) ?_
  refine g_sipush dX7_node_0 (by decide) ?_
  refine g_aload_n dX7_node_3 rfl ?_
  refine g_getI dX7_node_4 tf_7_207 rfl rfl ?_
  rw [ho]
  refine g_imul dX7_node_7 rfl ⟨by omega, by omega⟩ ?_
  refine g_aload_n dX7_node_8 rfl ?_
  refine g_getI dX7_node_9 tf_7_210 rfl rfl ?_
  rw [hc]
  refine g_iadd dX7_node_12 rfl ⟨by omega, by omega⟩ ?_
  refine g_istore_n dX7_node_13 (by decide) rfl ?_
  refine g_aload_n dX7_node_14 rfl ?_
  refine g_dup dX7_node_15 rfl ?_
  refine g_getI dX7_node_16 tf_7_210 rfl rfl ?_
  rw [hc]
  refine g_iconst dX7_node_19 ⟨by decide, by decide⟩ ?_
  refine g_iadd dX7_node_20 rfl ⟨by omega, by omega⟩ ?_
  refine g_putI dX7_node_21 tf_7_210 rfl rfl rfl ?_
  refine g_aload_n dX7_node_24 rfl ?_
  refine g_getA dX7_node_25 tf_7_59 rfl rfl (mrf hf rfl) ?_
  refine g_iload_n dX7_node_28 rfl ?_
  refine g_iload_n dX7_node_29 rfl ?_
  refine g_iastN (1600 * oth + c) dX7_node_30 rfl (by omega) (by omega) ?_
  refine g_aload_n dX7_node_31 rfl ?_
  refine g_getA dX7_node_32 tf_7_62 rfl rfl (mrf hf rfl) ?_
  refine g_iload_n dX7_node_35 rfl ?_
  refine g_iload_n dX7_node_36 rfl ?_
  refine g_iastN (1600 * oth + c) dX7_node_37 rfl (by omega) (by omega) ?_
  refine g_aload_n dX7_node_38 rfl ?_
  refine g_getA dX7_node_39 tf_7_65 rfl rfl (mrf hf rfl) ?_
  refine g_iload_n dX7_node_42 rfl ?_
  refine g_iconst dX7_node_43 ⟨by decide, by decide⟩ ?_
  refine g_iastN (1600 * oth + c) dX7_node_44 rfl (by omega) (by omega) ?_
  refine g_aload_n dX7_node_45 rfl ?_
  refine g_getA dX7_node_46 tf_7_68 rfl rfl (mrf hf rfl) ?_
  refine g_iload_n dX7_node_49 rfl ?_
  refine g_iconst dX7_node_50 ⟨by decide, by decide⟩ ?_
  refine g_iastN (1600 * oth + c) dX7_node_51 rfl (by omega) (by omega) ?_
  refine g_aload_n dX7_node_52 rfl ?_
  refine g_getA dX7_node_53 tf_7_71 rfl rfl (mrf hf rfl) ?_
  refine g_iload_n dX7_node_56 rfl ?_
  refine g_iconst dX7_node_57 ⟨by decide, by decide⟩ ?_
  refine g_iastN (1600 * oth + c) dX7_node_58 rfl (by omega) (by omega) ?_
  refine g_aload_n dX7_node_59 rfl ?_
  refine g_getA dX7_node_60 tf_7_74 rfl rfl (mrf hf rfl) ?_
  refine g_iload_n dX7_node_63 rfl ?_
  refine g_iconst dX7_node_64 ⟨by decide, by decide⟩ ?_
  refine g_zastN (1600 * oth + c) dX7_node_65 rfl (by omega) (by omega) (by omega) ?_
  refine g_iload_n dX7_node_66 rfl ?_
  refine g_ireturn dX7_node_67 (Or.inl rfl) ⟨_, rfl, ?_⟩
  exact ⟨by omega, rfl⟩

theorem cm_addsN {D : Nat} (hD : 1 ≤ D) (σ : am_HS) (to x : Int) (hx : x < 0) : am_Do lm D mX7_adds σ [vR (some 0), vI to, vI x] (qV fun s => s = σ) := by
  obtain ⟨d, rfl⟩ : ∃ d, D = d + 1 := ⟨D - 1, by omega⟩
  refine am_enter rfl rfl (Nat.le_of_ble_eq_true rfl) ?_
  refine g_iload_n dX7_adds_0 rfl ?_
  refine g_if_ge (tgt := 5) dX7_adds_1 (by decide) (fun c1 => ?_) (fun c1 => ?_)
  · exfalso; omega
  · refine g_return dX7_adds_4 rfl ⟨rfl, ?_⟩
    rfl

theorem cm_addsF {D : Nat} (hD : 1 ≤ D) (σ : am_HS) (hf : σ.2.2 = mH) (to x : Nat) (ht : to < 3200) (hp : hI σ 19 to < 0) : am_Do lm D mX7_adds σ [vR (some 0), vI (to : Int), vI (x : Int)] (qV fun s => s = uI (uI σ 19 to (x : Int)) 21 to (x : Int)) := by
  obtain ⟨d, rfl⟩ : ∃ d, D = d + 1 := ⟨D - 1, by omega⟩
  refine am_enter rfl rfl (Nat.le_of_ble_eq_true rfl) ?_
  refine g_iload_n dX7_adds_0 rfl ?_
  refine g_if_ge (tgt := 5) dX7_adds_1 (by decide) (fun c1 => ?_) (fun c1 => ?_)
  · refine g_aload_n dX7_adds_5 rfl ?_
    refine g_getA dX7_adds_6 tf_7_65 rfl rfl (mrf hf rfl) ?_
    refine g_iload_n dX7_adds_9 rfl ?_
    refine g_ialdN (to) dX7_adds_10 rfl (by omega) (by omega) ?_
    refine g_if_ge (tgt := 24) dX7_adds_11 (by decide) (fun c11 => ?_) (fun c11 => ?_)
    · exfalso; omega
    · refine g_aload_n dX7_adds_14 rfl ?_
      refine g_getA dX7_adds_15 tf_7_65 rfl rfl (mrf hf rfl) ?_
      refine g_iload_n dX7_adds_18 rfl ?_
      refine g_iload_n dX7_adds_19 rfl ?_
      refine g_iastN (to) dX7_adds_20 rfl (by omega) (by omega) ?_
      refine g_goto (tgt := 36) dX7_adds_21 (by decide) ?_
      refine g_aload_n dX7_adds_36 rfl ?_
      refine g_getA dX7_adds_37 tf_7_71 rfl rfl (mrf hf rfl) ?_
      refine g_iload_n dX7_adds_40 rfl ?_
      refine g_iload_n dX7_adds_41 rfl ?_
      refine g_iastN (to) dX7_adds_42 rfl (by omega) (by omega) ?_
      refine g_return dX7_adds_43 rfl ⟨rfl, ?_⟩
      rfl
  · exfalso; omega

theorem cm_addsL {D : Nat} (hD : 1 ≤ D) (σ : am_HS) (hf : σ.2.2 = mH) (to x L : Nat) (ht : to < 3200) (hL : L < 3200) (hp : 0 ≤ hI σ 19 to) (hl : hI σ 21 to = (L : Int)) : am_Do lm D mX7_adds σ [vR (some 0), vI (to : Int), vI (x : Int)] (qV fun s => s = uI (uI σ 20 L (x : Int)) 21 to (x : Int)) := by
  obtain ⟨d, rfl⟩ : ∃ d, D = d + 1 := ⟨D - 1, by omega⟩
  refine am_enter rfl rfl (Nat.le_of_ble_eq_true rfl) ?_
  refine g_iload_n dX7_adds_0 rfl ?_
  refine g_if_ge (tgt := 5) dX7_adds_1 (by decide) (fun c1 => ?_) (fun c1 => ?_)
  · refine g_aload_n dX7_adds_5 rfl ?_
    refine g_getA dX7_adds_6 tf_7_65 rfl rfl (mrf hf rfl) ?_
    refine g_iload_n dX7_adds_9 rfl ?_
    refine g_ialdN (to) dX7_adds_10 rfl (by omega) (by omega) ?_
    refine g_if_ge (tgt := 24) dX7_adds_11 (by decide) (fun c11 => ?_) (fun c11 => ?_)
    · refine g_aload_n dX7_adds_24 rfl ?_
      refine g_getA dX7_adds_25 tf_7_68 rfl rfl (mrf hf rfl) ?_
      refine g_aload_n dX7_adds_28 rfl ?_
      refine g_getA dX7_adds_29 tf_7_71 rfl rfl (mrf hf rfl) ?_
      refine g_iload_n dX7_adds_32 rfl ?_
      refine g_ialdN (to) dX7_adds_33 rfl (by omega) (by omega) ?_
      refine g_iload_n dX7_adds_34 rfl ?_
      refine g_iastN (L) dX7_adds_35 rfl (by omega) (by omega) ?_
      refine g_aload_n dX7_adds_36 rfl ?_
      refine g_getA dX7_adds_37 tf_7_71 rfl rfl (mrf hf rfl) ?_
      refine g_iload_n dX7_adds_40 rfl ?_
      refine g_iload_n dX7_adds_41 rfl ?_
      refine g_iastN (to) dX7_adds_42 rfl (by omega) (by omega) ?_
      refine g_return dX7_adds_43 rfl ⟨rfl, ?_⟩
      rfl
    · exfalso; omega
  · exfalso; omega

theorem cm_functionOf {D : Nat} (hD : 1 ≤ D) (σ : am_HS) (v : Int) : am_Do lm D mX7_functionOf σ [vI v] (qI fun z s => z = fnS v ∧ s = σ) := by
  obtain ⟨d, rfl⟩ : ∃ d, D = d + 1 := ⟨D - 1, by omega⟩
  refine am_enter rfl rfl (Nat.le_of_ble_eq_true rfl) ?_
  refine g_iload_n dX7_functionOf_0 rfl ?_
  by_cases k2230 : v = 2230
  · subst k2230
    refine g_lookup dX7_functionOf_1 (by decide) ⟨80, 81, by decide, by decide, ?_⟩
    refine g_bipush dX7_functionOf_81 (by decide) ?_
    refine g_ireturn dX7_functionOf_83 (Or.inl rfl) ⟨_, rfl, ?_⟩
    exact ⟨rfl, rfl⟩
  by_cases k9528 : v = 9528
  · subst k9528
    refine g_lookup dX7_functionOf_1 (by decide) ⟨67, 68, by decide, by decide, ?_⟩
    refine g_iconst dX7_functionOf_68 ⟨by decide, by decide⟩ ?_
    refine g_ireturn dX7_functionOf_69 (Or.inl rfl) ⟨_, rfl, ?_⟩
    exact ⟨rfl, rfl⟩
  by_cases k9734 : v = 9734
  · subst k9734
    refine g_lookup dX7_functionOf_1 (by decide) ⟨69, 70, by decide, by decide, ?_⟩
    refine g_iconst dX7_functionOf_70 ⟨by decide, by decide⟩ ?_
    refine g_ireturn dX7_functionOf_71 (Or.inl rfl) ⟨_, rfl, ?_⟩
    exact ⟨rfl, rfl⟩
  by_cases k43544 : v = 43544
  · subst k43544
    refine g_lookup dX7_functionOf_1 (by decide) ⟨74, 75, by decide, by decide, ?_⟩
    refine g_bipush dX7_functionOf_75 (by decide) ?_
    refine g_ireturn dX7_functionOf_77 (Or.inl rfl) ⟨_, rfl, ?_⟩
    exact ⟨rfl, rfl⟩
  by_cases k92275 : v = 92275
  · subst k92275
    refine g_lookup dX7_functionOf_1 (by decide) ⟨77, 78, by decide, by decide, ?_⟩
    refine g_bipush dX7_functionOf_78 (by decide) ?_
    refine g_ireturn dX7_functionOf_80 (Or.inl rfl) ⟨_, rfl, ?_⟩
    exact ⟨rfl, rfl⟩
  by_cases k259565 : v = 259565
  · subst k259565
    refine g_lookup dX7_functionOf_1 (by decide) ⟨71, 72, by decide, by decide, ?_⟩
    refine g_bipush dX7_functionOf_72 (by decide) ?_
    refine g_ireturn dX7_functionOf_74 (Or.inl rfl) ⟨_, rfl, ?_⟩
    exact ⟨rfl, rfl⟩
  by_cases k316189 : v = 316189
  · subst k316189
    refine g_lookup dX7_functionOf_1 (by decide) ⟨83, 84, by decide, by decide, ?_⟩
    refine g_bipush dX7_functionOf_84 (by decide) ?_
    refine g_ireturn dX7_functionOf_86 (Or.inl rfl) ⟨_, rfl, ?_⟩
    exact ⟨rfl, rfl⟩
  refine g_lookup dX7_functionOf_1 (by decide) ⟨86, 87, by simp [Op.lookupswitch.offset, k2230, k9528, k9734, k43544, k92275, k259565, k316189, Ne.symm k2230, Ne.symm k9528, Ne.symm k9734, Ne.symm k43544, Ne.symm k92275, Ne.symm k259565, Ne.symm k316189], by decide, ?_⟩
  refine g_iconst dX7_functionOf_87 ⟨by decide, by decide⟩ ?_
  refine g_ireturn dX7_functionOf_88 (Or.inl rfl) ⟨_, rfl, ?_⟩
  exact ⟨by simp [fnS, k2230, k9528, k9734, k43544, k92275, k259565, k316189], rfl⟩
theorem cm_workOf {D : Nat} (hD : 2 ≤ D) (σ : am_HS) (v : Int) (hv : -1000000 ≤ v ∧ v ≤ 1000000) : am_Do lm D mX7_workOf σ [vI v] (qI fun z s => z = wkS v ∧ s = σ) := by
  obtain ⟨d, rfl⟩ : ∃ d, D = d + 1 := ⟨D - 1, by omega⟩
  refine am_enter rfl rfl (Nat.le_of_ble_eq_true rfl) ?_
  refine g_iload_n dX7_workOf_0 rfl ?_
  refine g_sipush dX7_workOf_1 (by decide) ?_
  refine g_isub dX7_workOf_4 rfl ⟨by omega, by omega⟩ ?_
  refine g_iconst dX7_workOf_5 ⟨by decide, by decide⟩ ?_
  refine g_isub dX7_workOf_6 rfl ⟨by omega, by omega⟩ ?_
  refine g_istore_n dX7_workOf_7 (by decide) rfl ?_
  refine g_iload_n dX7_workOf_8 rfl ?_
  refine g_bipush dX7_workOf_9 (by decide) ?_
  refine g_callsI dX7_workOf_11 tm_7_141 rfl ⟨Nat.le_of_ble_eq_true rfl, rfl, rfl⟩ (Nat.le_of_ble_eq_true rfl) (cm_isIn (by omega) σ _ _) (fun z11 s11 h11 => ?_)
  obtain ⟨h11, e11⟩ := h11
  obtain rfl := e11.symm
  refine g_if_eq (tgt := 21) dX7_workOf_14 (by decide) (fun c14 => ?_) (fun c14 => ?_)
  · refine g_iconst dX7_workOf_21 ⟨by decide, by decide⟩ ?_
    refine g_ireturn dX7_workOf_22 (Or.inl rfl) ⟨_, rfl, ?_⟩
    exact ⟨by unfold wkS; split <;> omega, rfl⟩
  · refine g_iload_n dX7_workOf_17 rfl ?_
    refine g_goto (tgt := 22) dX7_workOf_18 (by decide) ?_
    refine g_ireturn dX7_workOf_22 (Or.inl rfl) ⟨_, rfl, ?_⟩
    exact ⟨by unfold wkS; split <;> omega, rfl⟩

