/-! THE REFERENCE: rules -/
/-- the lasting cells are those of τ, but for a book's -/
def FrK (oth : Nat) (τ s : am_HS) : Prop := s.2.2 = mH ∧ rgM s ∧ ∀ o k, keepM o k → ¬ bkc oth o k → hI s o k = hI τ o k
theorem FrK.fr {oth : Nat} {τ s u : am_HS} (h : FrK oth τ s) (f : FrM s u) : FrK oth τ u := ⟨f.1.trans h.1, f.rg h.2.1, fun o k a b => (f.2 o k a).trans (h.2.2 o k a b)⟩
theorem FrK.u {oth : Nat} {τ s : am_HS} (h : FrK oth τ s) {o k : Nat} {x : Int} (hx : rI x) (hb : bl o ≤ x ∧ x ≤ bh o) : FrK oth (uI τ o k x) (uI s o k x) := by
  refine ⟨h.1, h.2.1.u hb, fun a b k1 k2 => ?_⟩
  rw [hI_uI_x hx, hI_uI_x hx]
  split
  · rfl
  · exact h.2.2 a b k1 k2
abbrev rdA (σ : am_HS) (n : Nat) : Nat ⊕ List RU := pRA (tkT (fun j => hI σ 16 j) n) 13 [] 0
abbrev TkA (σ : am_HS) (n : Nat) : Nat → Int × Int := tkT (fun j => hI σ 16 j) n
def rgA (σ : am_HS) (n W : Nat) (acc : List RU) : Prop := ∃ k, k < 22 ∧ rch (EdW (edA (TkA σ n) acc W) acc.length W (fun w => hI σ 7 w)) 22 k k
def lsA (σ : am_HS) (n0 W P : Nat) (nm0 : Nat → Int) (ev0 : Nat → Den) (acc : List RU) : Prop := ∃ p r, p < P ∧ r < acc.length ∧ lsP nm0 (nmA acc) n0 (fun q => rvC n0 ev0 (mkP σ q)) (fun q => rvC acc.length (evA acc W) (mkP σ q)) p r
/-- a text that is refused, a refusal: what they leave -/
def tfM (σ : am_HS) : am_HS := uI (uI σ 0 23 0) 0 7 (hI σ 0 7 + 1)
def rfM (σ : am_HS) (k : Nat) : am_HS := uI (uI σ 0 23 0) 1 k (hI σ 1 k + 1)
/-- what 'rules' comes to, of a text that was read -/
def ruQ (σ : am_HS) (oth n n0 W P : Nat) (nm0 : Nat → Int) (ev0 : Nat → Den) (strict : Int) (acc : List RU) (z : Int) (s : am_HS) : Prop :=
  (∃ r, r < acc.length ∧ hoA (TkA σ n) acc W r ∧ (∀ q, q < r → ¬ hoA (TkA σ n) acc W q) ∧ z = -2000 - (r : Int) ∧ FrK oth (tfM σ) s) ∨
  ((∀ r, r < acc.length → ¬ hoA (TkA σ n) acc W r) ∧
    ((∃ r, r < acc.length ∧ twA acc r ∧ (∀ q, q < r → ¬ twA acc q) ∧ z = -3000 - (r : Int) ∧ FrK oth (tfM σ) s) ∨
    ((∀ r, r < acc.length → ¬ twA acc r) ∧
      ((rgA σ n W acc ∧ z = -5 ∧ FrK oth (rfM σ 5) s) ∨
      (¬ rgA σ n W acc ∧
        (((∃ w, w < W ∧ (acc.length : Int) ≤ hI σ 7 w) ∧ z = -3 ∧ FrK oth (rfM σ 3) s) ∨
        (¬ (∃ w, w < W ∧ (acc.length : Int) ≤ hI σ 7 w) ∧
          ((strict ≠ 0 ∧ lsA σ n0 W P nm0 ev0 acc ∧ z = -7 ∧ FrK oth (rfM σ 7) s) ∨
          (¬ (strict ≠ 0 ∧ lsA σ n0 W P nm0 ev0 acc) ∧ z = (acc.length : Int) ∧ FrK oth (uI (uI σ 0 23 0) 0 42 (oth : Int)) s ∧ MB oth acc.length (nmA acc) (evA acc W) (edA (TkA σ n) acc W) (LsR (TkA σ n) acc) s ∧ BkS acc.length (evA acc W) (edA (TkA σ n) acc W)))))))))) 
theorem QFr.fk {oth : Nat} {σ s : am_HS} (h : QFr oth σ s) (hf : σ.2.2 = mH) (hb : rgM s) : FrK oth σ s := ⟨by rw [h.1]; exact hf, hb, fun o k k1 k2 => h.2 o k (fun q => by unfold scQ at q; unfold keepM at k1; unfold bkc at k2; omega)⟩
theorem hoM_fk {oth n K : Nat} {τ s : am_HS} (h : FrK oth τ s) {W : Int} (hn : n ≤ 12) (hK : K ≤ 1600) : FrK oth τ (hoM s oth n W K) := by
  refine ⟨h.1, fun o k => ?_, fun o k k1 k2 => ?_⟩
  · by_cases q : o = 18 ∧ 1600 * oth ≤ k ∧ k < 1600 * oth + K ∧ hI s 17 k = 1
    · rw [q.1, hoM_i hn q.2]
      have := rsS_r (fun k => hI s 24 (12 * oth + k)) hn W (hI s 18 k)
      exact rg_free (by omega) ⟨by omega, by omega⟩
    · rw [hoM_o q]; exact h.2.1 o k
  · rw [hoM_o (fun q => k2 (by unfold bkc; omega))]
    exact h.2.2 o k k1 k2
theorem fk_mt {oth : Nat} {σ s : am_HS} (h : FrK oth (uI σ 0 23 0) s) (q : Nat) : mkP s q = mkP σ q := by
  refine funext fun w => mtM_congr (fun o j h1 h2 => ?_) q w (-1)
  rw [h.2.2 o j (Or.inl ⟨h1, by omega⟩) (by unfold bkc; omega)]
  exact hI_uI_n (by omega)
theorem fk_c {oth : Nat} {σ s : am_HS} (h : FrK oth (uI σ 0 23 0) s) {o k : Nat} (hk : keepM o k) (h1 : ¬ bkc oth o k) (h2 : ¬ (o = 0 ∧ k = 23)) : hI s o k = hI σ o k := (h.2.2 o k hk h1).trans (hI_uI_n (by omega))
theorem fk_mb {N oth n : Nat} {nm : Nat → Int} {ev : Nat → Den} {ed : Nat → Nat → Prop} {ls : Prop} {σ s : am_HS} (h : FrK oth (uI σ 0 23 0) s) (hNo : N + oth = 1) (hM : MB N n nm ev ed ls σ) : MB N n nm ev ed ls s := hM.of (fun o k hk => fk_c h (bkc_keep hk) (fun q => by unfold bkc at hk q; omega) (fun q => by unfold bkc at hk; omega))
theorem rules_z {d : Nat} (hD : 771 ≤ d) {σ : am_HS} {N oth n n0 W P : Nat} {nm0 : Nat → Int} {ev0 : Nat → Den} {ed0 : Nat → Nat → Prop} {ls0 : Prop} {strict : Int} (hst : strict = 0 ∨ strict = 1) (hNo : N + oth = 1) (hf0 : σ.2.2 = mH) (hb0 : rgM σ) (hrf9 : ∀ k, k < 8 → 0 ≤ hI σ 1 k ∧ hI σ 1 k ≤ 90000) (h7 : 0 ≤ hI σ 0 7 ∧ hI σ 0 7 ≤ 100000) (hnow : hI σ 0 42 = (N : Int)) (hB0 : MB N n0 nm0 ev0 ed0 ls0 σ) (hS0 : BkS n0 ev0 ed0) (hP : hI σ 0 1 = (P : Int)) (hP6 : P ≤ 6) (hW : hI σ 0 2 = (W : Int)) (hW10 : W ≤ 10) {acc : List RU} (hlen : 0 < acc.length) (hl : acc.length ≤ 12) (hno : ∀ r, r < acc.length → ¬ hoA (TkA σ n) acc W r) (htw : ∀ r, r < acc.length → ¬ twA acc r) (hrg : ¬ rgA σ n W acc) (hnd : ¬ (∃ w, w < W ∧ (acc.length : Int) ≤ hI σ 7 w)) (s : am_HS) (fk : FrK oth (uI σ 0 23 0) s) (h43 : hI s 0 43 = (oth : Int)) (hM : MB oth acc.length (nmA acc) (evA acc W) (edA (TkA σ n) acc W) (LsR (TkA σ n) acc) s) (hSk : BkS acc.length (evA acc W) (edA (TkA σ n) acc W)) (o3 o4 o5 o6 : Option am_V) : am_Go lm d 7 7 1 cX7_rules 174 [some (vR (some 0)), some (vI (n : Int)), some (vI strict), o3, o4, o5, o6] [] s (qI fun z s => ruQ σ oth n n0 W P nm0 ev0 strict acc z s) := by
  have hrf : ∀ k, k < 8 → 0 ≤ hI σ 1 k ∧ hI σ 1 k ≤ 100000 := fun k hk => by have := hrf9 k hk; omega
  have hf : s.2.2 = mH := fk.1
  have hb := fk.2.1
  have g42 : hI s 0 42 = (N : Int) := (fk_c fk (keepF (by decide)) (by unfold bkc; omega) (by omega)).trans hnow
  have gP : hI s 0 1 = (P : Int) := (fk_c fk (keepF (by decide)) (by unfold bkc; omega) (by omega)).trans hP
  have hBs := fk_mb fk hNo hB0
  have hrm : ∀ q, mkP s q = mkP σ q := fk_mt fk
  have hoth2 : oth < 2 := by omega
  have hend : ∀ (u : am_HS), FrM s u → ¬ (strict ≠ 0 ∧ lsA σ n0 W P nm0 ev0 acc) → ruQ σ oth n n0 W P nm0 ev0 strict acc (acc.length : Int) (uI u 0 42 (oth : Int)) := by
    intro u fu hn
    refine Or.inr ⟨hno, Or.inr ⟨htw, Or.inr ⟨hrg, Or.inr ⟨hnd, Or.inr ⟨hn, rfl, (fk.fr fu).u ⟨by omega, by omega⟩ (rg_free (by omega) ⟨by omega, by omega⟩), (fu.mb hM).of (fun o k hk => hI_uI_n (fun q => by unfold bkc at hk; omega)), hSk⟩⟩⟩⟩⟩
  have hend2 : ∀ (u1 : am_HS), (∃ u, FrM s u ∧ FrM (uI u 0 42 (oth : Int)) u1) → ¬ (strict ≠ 0 ∧ lsA σ n0 W P nm0 ev0 acc) → ruQ σ oth n n0 W P nm0 ev0 strict acc (acc.length : Int) u1 := by
    rintro u1 ⟨u, fu, f1⟩ hn
    refine Or.inr ⟨hno, Or.inr ⟨htw, Or.inr ⟨hrg, Or.inr ⟨hnd, Or.inr ⟨hn, rfl, ((fk.fr fu).u ⟨by omega, by omega⟩ (rg_free (by omega) ⟨by omega, by omega⟩)).fr f1, f1.mb ((fu.mb hM).of (fun o k hk => hI_uI_n (fun q => by unfold bkc at hk; omega))), hSk⟩⟩⟩⟩⟩
  have nstep : ∀ (u : am_HS), FrM s u → hI u 0 43 = (oth : Int) → (strict ≠ 0 → OT (fun q => rvC n0 ev0 (mkP s q)) n0 P 0 u) → am_Go lm d 7 7 1 cX7_rules 182 [some (vR (some 0)), some (vI (n : Int)), some (vI strict), o3, o4, o5, o6] [] u (qI fun z s => ruQ σ oth n n0 W P nm0 ev0 strict acc z s) := by
    intro u fu h43u hO
    have hf2 : u.2.2 = mH := fu.1.trans hf
    have hf := hf2
    have hbu := fu.rg hb
    have u42 : hI u 0 42 = (N : Int) := (fu.k (keepF (by decide))).trans g42
    have u43 : ∀ x, hI (uI u 0 42 x) 0 43 = hI u 0 43 := fun x => hI_uI_n (by omega)
    have fo : hI u 0 43 = (oth : Int) := h43u
    have ro : rI (oth : Int) := ⟨by omega, by omega⟩
    have rn : rI (N : Int) := ⟨by omega, by omega⟩
    have hM1 : MB oth acc.length (nmA acc) (evA acc W) (edA (TkA σ n) acc W) (LsR (TkA σ n) acc) (uI u 0 42 (oth : Int)) := (fu.mb hM).of (fun o k hk => hI_uI_n (fun q => by unfold bkc at hk; omega))
    have e42 : hI (uI u 0 42 (oth : Int)) 0 42 = (oth : Int) := hI_uI_e ro
    have hb1 : rgM (uI u 0 42 (oth : Int)) := hbu.u (rg_free (by omega) ro)
    refine g_aload_n dX7_rules_182 rfl ?_
    refine g_getI dX7_rules_183 tf_7_148 rfl rfl ?_
    rw [u42]
    refine g_istore dX7_rules_186 (by decide) rfl ?_
    refine g_aload_n dX7_rules_188 rfl ?_
    refine g_aload_n dX7_rules_189 rfl ?_
    refine g_getI dX7_rules_190 tf_7_207 rfl rfl ?_
    rw [fo]
    refine g_putI dX7_rules_193 tf_7_148 rfl rfl rfl ?_
    refine g_iload_n dX7_rules_196 rfl ?_
    refine g_if_eq (tgt := 222) dX7_rules_197 (by decide) (fun c197 => ?_) (fun c197 => ?_)
    · first
        | (have hn0 : ¬ (strict ≠ 0 ∧ lsA σ n0 W P nm0 ev0 acc) := fun q => q.1 c197
           have he := hend u fu hn0
           have e23 : hI (uI u 0 42 (oth : Int)) 23 oth = (acc.length : Int) := hM1.2.2.1
           refine g_aload_n dX7_rules_222 rfl ?_
           refine g_getA dX7_rules_223 tf_7_77 rfl rfl (mrf hf rfl) ?_
           refine g_aload_n dX7_rules_226 rfl ?_
           refine g_getI dX7_rules_227 tf_7_148 rfl rfl ?_
           rw [e42]
           refine g_ialdN (oth) dX7_rules_230 rfl (by omega) (by omega) ?_
           refine g_ireturn dX7_rules_231 (Or.inl rfl) ⟨_, rfl, ?_⟩
           rw [e23]
           exact he)
        | (have hn0 : ¬ (strict ≠ 0 ∧ lsA σ n0 W P nm0 ev0 acc) := fun q => by
             rcases h203 with ⟨a, b⟩ | ⟨a, b⟩
             · exact absurd (a.symm.trans c206) (by decide)
             · exact b q.2
           have he := hend2 s203 ⟨u, fu, f203⟩ hn0
           have e23 : hI s203 23 oth = (acc.length : Int) := (f203.mb hM1).2.2.1
           have e42b : hI s203 0 42 = (oth : Int) := (f203.k (keepF (by decide))).trans e42
           refine g_aload_n dX7_rules_222 rfl ?_
           refine g_getA dX7_rules_223 tf_7_77 rfl rfl (mrf hf rfl) ?_
           refine g_aload_n dX7_rules_226 rfl ?_
           refine g_getI dX7_rules_227 tf_7_148 rfl rfl ?_
           rw [e42b]
           refine g_ialdN (oth) dX7_rules_230 rfl (by omega) (by omega) ?_
           refine g_ireturn dX7_rules_231 (Or.inl rfl) ⟨_, rfl, ?_⟩
           rw [e23]
           exact he)
    · have hs0 : strict ≠ 0 := c197
      have hO1 := (hO hs0).of (u := uI u 0 42 (oth : Int)) ⟨fun k => hI_uI_n (by omega), fun _ => rfl, fun _ => rfl, hI_uI_n (by omega)⟩
      have hBu := (fu.mb hBs).of (s := uI u 0 42 (oth : Int)) (fun o k hk => hI_uI_n (fun q => by unfold bkc at hk; omega))
      have hmk1 : ∀ q, mkP (uI u 0 42 (oth : Int)) q = mkP σ q := fun q => (funext fun w => mtM_congr (fun o j h1 h2 => hI_uI_n (by omega)) q w (-1)).trans ((fu.mkp q).trans (hrm q))
      refine g_aload_n dX7_rules_200 rfl ?_
      refine g_iload dX7_rules_201 rfl ?_
      refine g_callvI dX7_rules_203 tm_7_286 rfl ⟨rfl, rfl⟩ rfl (Nat.le_of_ble_eq_true rfl) (cm_isLess (D := d) (N := N) (σ := uI u 0 42 (oth : Int)) (by omega) hf hb1 (by omega) hBu.2.1 hBu.2.2.1 hBu.2.2.2.1 hM1 e42 hSk P ((hI_uI_n (by omega)).trans ((fu.k (keepF (by decide))).trans gP)) hP6 (fun q => rvC n0 ev0 (mkP s q)) (fun q j => rvI_ok hS0 (mkP_ok s q) 12 j) hO1) (fun z203 s203 h203 => ?_)
      obtain ⟨h203, f203⟩ := h203
      have hlse : (∃ p r, p < P ∧ r < acc.length ∧ lsP nm0 (nmA acc) n0 (fun q => rvC n0 ev0 (mkP s q)) (fun q => rvC acc.length (evA acc W) (mkP (uI u 0 42 (oth : Int)) q)) p r) ↔ lsA σ n0 W P nm0 ev0 acc := by
        unfold lsA
        simp only [hrm, hmk1]
      rw [hlse] at h203
      have hf2 : s203.2.2 = mH := f203.1.trans hf
      have hf := hf2
      have fkn : FrK oth (uI σ 0 23 0) (uI s203 0 42 (N : Int)) := by
        refine ⟨hf2, (f203.rg hb1).u (rg_free (by omega) rn), fun o k k1 k2 => ?_⟩
        by_cases q : o = 0 ∧ k = 42
        · rw [q.1, q.2, hI_uI_e rn, hI_uI_n (by omega)]
          exact hnow.symm
        · rw [hI_uI_n q, f203.2 o k k1, hI_uI_n q, fu.2 o k k1]
          exact fk.2.2 o k k1 k2
      have hrr : ∀ k, k < 8 → hI (uI s203 0 42 (N : Int)) 1 k = hI σ 1 k := fun k hk => fk_c fkn (keepA (by decide) (by decide)) (by unfold bkc; omega) (by omega)
      have h203z : z203 = 0 ∨ z203 = 1 := h203.elim (fun q => Or.inr q.1) (fun q => Or.inl q.1)
      refine g_if_eq (tgt := 222) dX7_rules_206 (by decide) (fun c206 => ?_) (fun c206 => ?_)
      · first
          | (have hn0 : ¬ (strict ≠ 0 ∧ lsA σ n0 W P nm0 ev0 acc) := fun q => q.1 c197
             have he := hend u fu hn0
             have e23 : hI (uI u 0 42 (oth : Int)) 23 oth = (acc.length : Int) := hM1.2.2.1
             refine g_aload_n dX7_rules_222 rfl ?_
             refine g_getA dX7_rules_223 tf_7_77 rfl rfl (mrf hf rfl) ?_
             refine g_aload_n dX7_rules_226 rfl ?_
             refine g_getI dX7_rules_227 tf_7_148 rfl rfl ?_
             rw [e42]
             refine g_ialdN (oth) dX7_rules_230 rfl (by omega) (by omega) ?_
             refine g_ireturn dX7_rules_231 (Or.inl rfl) ⟨_, rfl, ?_⟩
             rw [e23]
             exact he)
          | (have hn0 : ¬ (strict ≠ 0 ∧ lsA σ n0 W P nm0 ev0 acc) := fun q => by
               rcases h203 with ⟨a, b⟩ | ⟨a, b⟩
               · exact absurd (a.symm.trans c206) (by decide)
               · exact b q.2
             have he := hend2 s203 ⟨u, fu, f203⟩ hn0
             have e23 : hI s203 23 oth = (acc.length : Int) := (f203.mb hM1).2.2.1
             have e42b : hI s203 0 42 = (oth : Int) := (f203.k (keepF (by decide))).trans e42
             refine g_aload_n dX7_rules_222 rfl ?_
             refine g_getA dX7_rules_223 tf_7_77 rfl rfl (mrf hf rfl) ?_
             refine g_aload_n dX7_rules_226 rfl ?_
             refine g_getI dX7_rules_227 tf_7_148 rfl rfl ?_
             rw [e42b]
             refine g_ialdN (oth) dX7_rules_230 rfl (by omega) (by omega) ?_
             refine g_ireturn dX7_rules_231 (Or.inl rfl) ⟨_, rfl, ?_⟩
             rw [e23]
             exact he)
      · refine g_aload_n dX7_rules_209 rfl ?_
        refine g_iload dX7_rules_210 rfl ?_
        refine g_putI dX7_rules_212 tf_7_148 rfl rfl rfl ?_
        refine g_aload_n dX7_rules_215 rfl ?_
        refine g_bipush dX7_rules_216 (by decide) ?_
        refine g_callvI dX7_rules_218 tm_7_133 rfl ⟨rfl, rfl⟩ rfl (Nat.le_of_ble_eq_true rfl) (cm_refuse (by omega) (uI s203 0 42 (N : Int)) hf _ ⟨by omega, by omega⟩ (fun k hk => by rw [hrr k hk]; exact hrf k hk)) (fun z218 s218 h218 => ?_)
        obtain ⟨rfl, rfl⟩ := h218
        refine g_ireturn dX7_rules_221 (Or.inl rfl) ⟨_, rfl, ?_⟩
        refine Or.inr ⟨hno, Or.inr ⟨htw, Or.inr ⟨hrg, Or.inr ⟨hnd, Or.inl ⟨hs0, ?_, rfl, ?_⟩⟩⟩⟩⟩
        · rcases h203 with ⟨a, b⟩ | ⟨a, b⟩
          · exact b
          · exact absurd a c206
        · rw [show (-(-7 : Int)).toNat = 7 from rfl, hrr 7 (by decide)]
          have := hrf9 7 (by decide)
          exact fkn.u ⟨by omega, by omega⟩ ⟨by show (0 : Int) ≤ _; omega, by show _ ≤ (100000 : Int); omega⟩
  by_cases h0 : strict = 0
  · have hs := nstep s (FrM.rf s) h43 (fun q => absurd h0 q)
    refine g_iload_n dX7_rules_174 rfl ?_
    refine g_if_eq (tgt := 182) dX7_rules_175 (by decide) (fun c175 => ?_) (fun c175 => ?_)
    · exact hs
    · exfalso; omega
  · have gk := cm_keepsOld (D := d) (by omega) hf hb hBs g42 hS0 P gP hP6
    refine g_iload_n dX7_rules_174 rfl ?_
    refine g_if_eq (tgt := 182) dX7_rules_175 (by decide) (fun c175 => ?_) (fun c175 => ?_)
    · exfalso; omega
    · refine g_aload_n dX7_rules_178 rfl ?_
      refine g_callvV dX7_rules_179 tm_7_283 rfl ⟨rfl, rfl⟩ rfl (Nat.le_of_ble_eq_true rfl) (gk) (fun s179 h179 => ?_)
      exact nstep s179 h179.1 (h179.2.2.trans h43) (fun _ => h179.2.1)
