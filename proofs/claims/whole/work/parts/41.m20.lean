/-! THE REFERENCE: markOf -/
theorem nrm_small {a b : Int} (h1 : 0 ≤ a) (h2 : a ≤ 1000000000) (h3 : 1 ≤ b) (h4 : b ≤ 1000000000) : ∃ q, nrm a b = some (some q) := by
  have hg := gcd_pos (a := a) h3
  have e1 : a / (Int.gcd a b : Int) ≤ a := Int.ediv_le_self _ h1
  have e2 : b / (Int.gcd a b : Int) ≤ b := Int.ediv_le_self _ (by omega)
  have e3 : 0 ≤ a / (Int.gcd a b : Int) := Int.ediv_nonneg h1 (by omega)
  unfold nrm
  rw [if_neg (by omega)]
  exact ⟨_, rfl⟩
theorem mvM_num {σ : am_HS} (hb : rgM σ) {p w : Nat} (hm : mkM σ p w) : ∃ q, mvM σ p w = some (some q) := by
  have b2 : 0 ≤ hI σ 5 w ∧ hI σ 5 w ≤ 100000 := hb 5 w
  have b3 : 0 ≤ hI σ 9 (10 * p + w) ∧ hI σ 9 (10 * p + w) ≤ 1000 := hb 9 _
  have b4 : 0 ≤ hI σ 6 w ∧ hI σ 6 w ≤ 100 := hb 6 w
  have b5 : ∀ t, 0 ≤ shrS (hI σ 6 w) (dayS (hI σ 11 (3 * (10 * p + w) + t)) (hI σ 5 w) (hI σ 9 (10 * p + w))) ∧ shrS (hI σ 6 w) (dayS (hI σ 11 (3 * (10 * p + w) + t)) (hI σ 5 w) (hI σ 9 (10 * p + w))) ≤ 100 := fun t => shrS_r b4 (dayS_r (hb 11 _) b2.1 b3.1)
  unfold mvM mkvS
  unfold mkM mkdS at hm
  split
  · rename_i h3
    rw [if_pos h3] at hm
    have c1 := sumS_r (f := fun q => hI σ 14 (6 * (10 * p + w) + q)) (fun q => (hb 14 _).2) 6
    have c2 := cntS_r (fun q => hI σ 14 (6 * (10 * p + w) + q)) 6
    have c3 := mul_bd ⟨c1.1, c1.2⟩ (b5 0)
    exact nrm_small c3.1 (Int.le_trans c3.2 (by omega)) (by omega) (by omega)
  · have c1 := bestS_r (f := fun t => hI σ 13 (3 * (10 * p + w) + t)) (fun t => (hb 13 _).2) b5 3
    exact nrm_small c1.1 (Int.le_trans c1.2 (by omega)) (by omega) (by omega)
theorem mvM_ok {σ : am_HS} {p w : Nat} (hm : mkM σ p w) : vok (mvM σ p w) := by
  unfold mvM mkvS
  unfold mkM mkdS at hm
  split
  · rename_i h3
    rw [if_pos h3] at hm
    exact nrm_ok (by omega)
  · exact nrm_ok (by omega)
/-- what 'markOf' answers -/
def moA (σ : am_HS) (p w : Nat) (q : Int) : Int := if q = 4 then hI σ 10 (10 * p + w) else if q = 3 then (if hI σ 10 (10 * p + w) = 0 then -9 else dayS (hI σ 11 (3 * (10 * p + w) + (tmM σ p w).toNat)) (hI σ 5 w) (hI σ 9 (10 * p + w))) else if q = 2 then (if hI σ 15 (10 * p + w) = 1 then 0 else if mkM σ p w then 1 else 2) else if hI σ 15 (10 * p + w) = 1 ∨ ¬ mkM σ p w then q else if q = 0 then upV (mvM σ p w) else dnV (mvM σ p w)
theorem cm_markOfT {d : Nat} (hD : 4 ≤ d) (σ : am_HS) (hf : σ.2.2 = mH) (hb : rgM σ) (p w : Nat) (hp : p < 6) (hw : w < 10) (hmny : hI σ 3 w = 2 → hI σ 10 (10 * p + w) ≤ 3) (q : Int) (hq : 0 ≤ q ∧ q < 5) (i : Int) (hi : i = 1 ∧ hI σ 15 (10 * p + w) ≠ 1 ∧ mkM σ p w ∨ i = 0 ∧ (hI σ 15 (10 * p + w) = 1 ∨ ¬ mkM σ p w)) : am_Go lm d 7 6 1 cX7_markOf 70 [some (vR (some 0)), some (vI (p : Int)), some (vI (w : Int)), some (vI q), some (vI (10 * (p : Int) + (w : Int))), some (vI i)] [] σ (qI fun z s => z = moA σ p w q ∧ FrM σ s) := by
  have hmy : 0 ≤ hI σ 10 (10 * p + w) ∧ hI σ 10 (10 * p + w) ≤ 100000 := hb 10 _
  have h15 : 0 ≤ hI σ 15 (10 * p + w) ∧ hI σ 15 (10 * p + w) ≤ 1 := hb 15 _
  have hi2 : i = 0 ∨ i = 1 := by rcases hi with ⟨a, -⟩ | ⟨a, -⟩; exact Or.inr a; exact Or.inl a
  refine g_iload_n dX7_markOf_70 rfl ?_
  refine g_iconst dX7_markOf_71 ⟨by decide, by decide⟩ ?_
  refine g_icmp_ne (tgt := 83) dX7_markOf_72 (by decide) (fun c72 => ?_) (fun c72 => ?_)
  · refine g_iload_n dX7_markOf_83 rfl ?_
    refine g_iconst dX7_markOf_84 ⟨by decide, by decide⟩ ?_
    refine g_icmp_ne (tgt := 133) dX7_markOf_85 (by decide) (fun c85 => ?_) (fun c85 => ?_)
    · refine g_iload_n dX7_markOf_133 rfl ?_
      refine g_iconst dX7_markOf_134 ⟨by decide, by decide⟩ ?_
      refine g_icmp_ne (tgt := 163) dX7_markOf_135 (by decide) (fun c135 => ?_) (fun c135 => ?_)
      · refine g_iload dX7_markOf_163 rfl ?_
        refine g_if_ne (tgt := 170) dX7_markOf_165 (by decide) (fun c165 => ?_) (fun c165 => ?_)
        · refine g_aload_n dX7_markOf_170 rfl ?_
          refine g_iload_n dX7_markOf_171 rfl ?_
          refine g_iload_n dX7_markOf_172 rfl ?_
          refine g_callvV dX7_markOf_173 tm_7_333 rfl ⟨rfl, rfl⟩ rfl (Nat.le_of_ble_eq_true rfl) (cm_markedIs (by omega) σ hf hb p w hp hw (by rcases hi with ⟨a, b⟩ | ⟨a, b⟩; exact b.2; exact absurd a c165)) (fun s173 h173 => ?_)
          obtain ⟨tz, tU, tW, rfl, hvt⟩ := h173
          refine g_iload_n dX7_markOf_176 rfl ?_
          refine g_if_ne (tgt := 187) dX7_markOf_177 (by decide) (fun c177 => ?_) (fun c177 => ?_)
          · refine g_aload_n dX7_markOf_187 rfl ?_
            refine g_getL dX7_markOf_188 tf_7_259 rfl rfl ?_
            have hmk : hI σ 15 (10 * p + w) ≠ 1 ∧ mkM σ p w := by
              rcases hi with ⟨a, b⟩ | ⟨a, b⟩
              · exact b
              · exact absurd a c165
            obtain ⟨qq, hqq⟩ := mvM_num hb hmk.2
            have hvv := hvt
            have hmo := mvM_ok hmk.2
            rw [hqq] at hvt hmo
            obtain ⟨g1, g2, g3⟩ := hvt
            obtain ⟨k1, k2, k3, k4, -⟩ := hmo
            clear hi
            refine g_l2i dX7_markOf_191 (by first
  | (rw [hL_uT_u (by rw [g2]; exact ⟨by omega, by omega⟩), g2]; exact ⟨by omega, by omega⟩)
  | (rw [hL_uT_w (by rw [g3]; exact ⟨by omega, by omega⟩), g3]; exact ⟨by omega, by omega⟩)) ?_
            refine g_ireturn dX7_markOf_192 (Or.inl rfl) ⟨_, rfl, ?_⟩
            refine ⟨?_, FrM_uT σ tz tU tW⟩
            unfold moA
            rw [if_neg (by omega), if_neg (by omega), if_neg (by omega), if_neg (fun h => h.elim hmk.1 (fun h2 => h2 hmk.2)), hqq]
            first
              | (rw [if_pos (by omega), hL_uT_u (by rw [g2]; exact ⟨by omega, by omega⟩)]; exact g2)
              | (rw [if_neg (by omega), hL_uT_w (by rw [g3]; exact ⟨by omega, by omega⟩)]; exact g3)
          · refine g_aload_n dX7_markOf_180 rfl ?_
            refine g_getL dX7_markOf_181 tf_7_255 rfl rfl ?_
            refine g_goto (tgt := 191) dX7_markOf_184 (by decide) ?_
            have hmk : hI σ 15 (10 * p + w) ≠ 1 ∧ mkM σ p w := by
              rcases hi with ⟨a, b⟩ | ⟨a, b⟩
              · exact b
              · exact absurd a c165
            obtain ⟨qq, hqq⟩ := mvM_num hb hmk.2
            have hvv := hvt
            have hmo := mvM_ok hmk.2
            rw [hqq] at hvt hmo
            obtain ⟨g1, g2, g3⟩ := hvt
            obtain ⟨k1, k2, k3, k4, -⟩ := hmo
            clear hi
            refine g_l2i dX7_markOf_191 (by first
  | (rw [hL_uT_u (by rw [g2]; exact ⟨by omega, by omega⟩), g2]; exact ⟨by omega, by omega⟩)
  | (rw [hL_uT_w (by rw [g3]; exact ⟨by omega, by omega⟩), g3]; exact ⟨by omega, by omega⟩)) ?_
            refine g_ireturn dX7_markOf_192 (Or.inl rfl) ⟨_, rfl, ?_⟩
            refine ⟨?_, FrM_uT σ tz tU tW⟩
            unfold moA
            rw [if_neg (by omega), if_neg (by omega), if_neg (by omega), if_neg (fun h => h.elim hmk.1 (fun h2 => h2 hmk.2)), hqq]
            first
              | (rw [if_pos (by omega), hL_uT_u (by rw [g2]; exact ⟨by omega, by omega⟩)]; exact g2)
              | (rw [if_neg (by omega), hL_uT_w (by rw [g3]; exact ⟨by omega, by omega⟩)]; exact g3)
        · refine g_iload_n dX7_markOf_168 rfl ?_
          refine g_ireturn dX7_markOf_169 (Or.inl rfl) ⟨_, rfl, ?_⟩
          unfold moA
          have hb3 : hI σ 15 (10 * p + w) = 1 ∨ ¬ mkM σ p w := by
            rcases hi with ⟨a, b⟩ | ⟨a, b⟩
            · exact absurd a (by omega)
            · exact b
          rw [if_neg (by clear hi hb3; omega), if_neg (by clear hi hb3; omega), if_neg (by clear hi hb3; omega), if_pos hb3]
          exact ⟨rfl, FrM.rf σ⟩
      · refine g_aload_n dX7_markOf_138 rfl ?_
        refine g_getA dX7_markOf_139 tf_7_52 rfl rfl (mrf hf rfl) ?_
        refine g_iload dX7_markOf_142 rfl ?_
        refine g_zaldN ((10 * p + w)) dX7_markOf_144 rfl (by omega) (by omega) ?_
        refine g_if_eq (tgt := 152) dX7_markOf_145 (by decide) (fun c145 => ?_) (fun c145 => ?_)
        · refine g_iload dX7_markOf_152 rfl ?_
          refine g_if_eq (tgt := 161) dX7_markOf_154 (by decide) (fun c154 => ?_) (fun c154 => ?_)
          · refine g_iconst dX7_markOf_161 ⟨by decide, by decide⟩ ?_
            refine g_ireturn dX7_markOf_162 (Or.inl rfl) ⟨_, rfl, ?_⟩
            have fz : FrM σ σ := FrM.rf σ
            unfold moA
            first
              | (rw [if_pos (by clear hi; omega)]; exact ⟨rfl, fz⟩)
              | (rw [if_neg (by clear hi; omega), if_pos (by clear hi; omega), if_pos (by clear hi; omega)]; exact ⟨rfl, fz⟩)
              | (rw [if_neg (by clear hi; omega), if_pos (by clear hi; omega), if_neg (by clear hi; omega), htt]; exact ⟨rfl, fz⟩)
              | (rw [if_neg (by clear hi; omega), if_neg (by clear hi; omega), if_pos (by clear hi; omega), if_pos (by clear hi; omega)]; exact ⟨rfl, fz⟩)
              | (rw [if_neg (by clear hi; omega), if_neg (by clear hi; omega), if_pos (by clear hi; omega), if_neg (by clear hi; omega)]
                 rcases hi with ⟨a, b, c⟩ | ⟨a, b⟩
                 · first
                     | (rw [if_pos c]; exact ⟨rfl, fz⟩)
                     | exact absurd a (by omega)
                 · first
                     | (rw [if_neg (by rcases b with b | b; exact absurd b (by omega); exact b)]; exact ⟨rfl, fz⟩)
                     | exact absurd a (by omega))
              | (clear hf hb; omega)
          · refine g_iconst dX7_markOf_157 ⟨by decide, by decide⟩ ?_
            refine g_goto (tgt := 162) dX7_markOf_158 (by decide) ?_
            refine g_ireturn dX7_markOf_162 (Or.inl rfl) ⟨_, rfl, ?_⟩
            have fz : FrM σ σ := FrM.rf σ
            unfold moA
            first
              | (rw [if_pos (by clear hi; omega)]; exact ⟨rfl, fz⟩)
              | (rw [if_neg (by clear hi; omega), if_pos (by clear hi; omega), if_pos (by clear hi; omega)]; exact ⟨rfl, fz⟩)
              | (rw [if_neg (by clear hi; omega), if_pos (by clear hi; omega), if_neg (by clear hi; omega), htt]; exact ⟨rfl, fz⟩)
              | (rw [if_neg (by clear hi; omega), if_neg (by clear hi; omega), if_pos (by clear hi; omega), if_pos (by clear hi; omega)]; exact ⟨rfl, fz⟩)
              | (rw [if_neg (by clear hi; omega), if_neg (by clear hi; omega), if_pos (by clear hi; omega), if_neg (by clear hi; omega)]
                 rcases hi with ⟨a, b, c⟩ | ⟨a, b⟩
                 · first
                     | (rw [if_pos c]; exact ⟨rfl, fz⟩)
                     | exact absurd a (by omega)
                 · first
                     | (rw [if_neg (by rcases b with b | b; exact absurd b (by omega); exact b)]; exact ⟨rfl, fz⟩)
                     | exact absurd a (by omega))
              | (clear hf hb; omega)
        · refine g_iconst dX7_markOf_148 ⟨by decide, by decide⟩ ?_
          refine g_goto (tgt := 162) dX7_markOf_149 (by decide) ?_
          refine g_ireturn dX7_markOf_162 (Or.inl rfl) ⟨_, rfl, ?_⟩
          have fz : FrM σ σ := FrM.rf σ
          unfold moA
          first
            | (rw [if_pos (by clear hi; omega)]; exact ⟨rfl, fz⟩)
            | (rw [if_neg (by clear hi; omega), if_pos (by clear hi; omega), if_pos (by clear hi; omega)]; exact ⟨rfl, fz⟩)
            | (rw [if_neg (by clear hi; omega), if_pos (by clear hi; omega), if_neg (by clear hi; omega), htt]; exact ⟨rfl, fz⟩)
            | (rw [if_neg (by clear hi; omega), if_neg (by clear hi; omega), if_pos (by clear hi; omega), if_pos (by clear hi; omega)]; exact ⟨rfl, fz⟩)
            | (rw [if_neg (by clear hi; omega), if_neg (by clear hi; omega), if_pos (by clear hi; omega), if_neg (by clear hi; omega)]
               rcases hi with ⟨a, b, c⟩ | ⟨a, b⟩
               · first
                   | (rw [if_pos c]; exact ⟨rfl, fz⟩)
                   | exact absurd a (by omega)
               · first
                   | (rw [if_neg (by rcases b with b | b; exact absurd b (by omega); exact b)]; exact ⟨rfl, fz⟩)
                   | exact absurd a (by omega))
            | (clear hf hb; omega)
    · refine g_aload_n dX7_markOf_88 rfl ?_
      refine g_getA dX7_markOf_89 tf_7_37 rfl rfl (mrf hf rfl) ?_
      refine g_iload dX7_markOf_92 rfl ?_
      refine g_ialdN ((10 * p + w)) dX7_markOf_94 rfl (by omega) (by omega) ?_
      refine g_if_ne (tgt := 103) dX7_markOf_95 (by decide) (fun c95 => ?_) (fun c95 => ?_)
      · refine g_aload_n dX7_markOf_103 rfl ?_
        refine g_iload_n dX7_markOf_104 rfl ?_
        refine g_iload_n dX7_markOf_105 rfl ?_
        refine g_aload_n dX7_markOf_106 rfl ?_
        refine g_getA dX7_markOf_107 tf_7_16 rfl rfl (mrf hf rfl) ?_
        refine g_iload_n dX7_markOf_110 rfl ?_
        refine g_ialdN (w) dX7_markOf_111 rfl (by omega) (by omega) ?_
        refine g_iconst dX7_markOf_112 ⟨by decide, by decide⟩ ?_
        refine g_icmp_ne (tgt := 128) dX7_markOf_113 (by decide) (fun c113 => ?_) (fun c113 => ?_)
        · refine g_iconst dX7_markOf_128 ⟨by decide, by decide⟩ ?_
          obtain ⟨t, ht, ht3⟩ : ∃ t : Nat, tmM σ p w = (t : Int) ∧ t < 3 := ⟨(tmM σ p w).toNat, by clear hi; unfold tmM; split <;> omega, by clear hi; unfold tmM; split <;> omega⟩
          have htt : (tmM σ p w).toNat = t := by clear hi; omega
          first
            | rw [show hI σ 10 (10 * p + w) - 1 = (t : Int) by rw [← ht]; unfold tmM; rw [if_pos (by clear hi; omega)]]
            | rw [show (0 : Int) = (t : Int) by rw [← ht]; unfold tmM; rw [if_neg (by clear hi; omega)]]
          refine g_callvI dX7_markOf_129 tm_7_304 rfl ⟨rfl, rfl⟩ rfl (Nat.le_of_ble_eq_true rfl) (cm_days (by omega) σ hf hb p w hp hw t ht3) (fun z129 s129 h129 => ?_)
          obtain ⟨rfl, e129⟩ := h129
          obtain rfl := e129.symm
          refine g_ireturn dX7_markOf_132 (Or.inl rfl) ⟨_, rfl, ?_⟩
          have fz : FrM σ σ := FrM.rf σ
          unfold moA
          first
            | (rw [if_pos (by clear hi; omega)]; exact ⟨rfl, fz⟩)
            | (rw [if_neg (by clear hi; omega), if_pos (by clear hi; omega), if_pos (by clear hi; omega)]; exact ⟨rfl, fz⟩)
            | (rw [if_neg (by clear hi; omega), if_pos (by clear hi; omega), if_neg (by clear hi; omega), htt]; exact ⟨rfl, fz⟩)
            | (rw [if_neg (by clear hi; omega), if_neg (by clear hi; omega), if_pos (by clear hi; omega), if_pos (by clear hi; omega)]; exact ⟨rfl, fz⟩)
            | (rw [if_neg (by clear hi; omega), if_neg (by clear hi; omega), if_pos (by clear hi; omega), if_neg (by clear hi; omega)]
               rcases hi with ⟨a, b, c⟩ | ⟨a, b⟩
               · first
                   | (rw [if_pos c]; exact ⟨rfl, fz⟩)
                   | exact absurd a (by omega)
               · first
                   | (rw [if_neg (by rcases b with b | b; exact absurd b (by omega); exact b)]; exact ⟨rfl, fz⟩)
                   | exact absurd a (by omega))
            | (clear hf hb; omega)
        · refine g_aload_n dX7_markOf_116 rfl ?_
          refine g_getA dX7_markOf_117 tf_7_37 rfl rfl (mrf hf rfl) ?_
          refine g_iload dX7_markOf_120 rfl ?_
          refine g_ialdN ((10 * p + w)) dX7_markOf_122 rfl (by omega) (by omega) ?_
          refine g_iconst dX7_markOf_123 ⟨by decide, by decide⟩ ?_
          refine g_isub dX7_markOf_124 rfl ⟨by omega, by omega⟩ ?_
          refine g_goto (tgt := 129) dX7_markOf_125 (by decide) ?_
          obtain ⟨t, ht, ht3⟩ : ∃ t : Nat, tmM σ p w = (t : Int) ∧ t < 3 := ⟨(tmM σ p w).toNat, by clear hi; unfold tmM; split <;> omega, by clear hi; unfold tmM; split <;> omega⟩
          have htt : (tmM σ p w).toNat = t := by clear hi; omega
          first
            | rw [show hI σ 10 (10 * p + w) - 1 = (t : Int) by rw [← ht]; unfold tmM; rw [if_pos (by clear hi; omega)]]
            | rw [show (0 : Int) = (t : Int) by rw [← ht]; unfold tmM; rw [if_neg (by clear hi; omega)]]
          refine g_callvI dX7_markOf_129 tm_7_304 rfl ⟨rfl, rfl⟩ rfl (Nat.le_of_ble_eq_true rfl) (cm_days (by omega) σ hf hb p w hp hw t ht3) (fun z129 s129 h129 => ?_)
          obtain ⟨rfl, e129⟩ := h129
          obtain rfl := e129.symm
          refine g_ireturn dX7_markOf_132 (Or.inl rfl) ⟨_, rfl, ?_⟩
          have fz : FrM σ σ := FrM.rf σ
          unfold moA
          first
            | (rw [if_pos (by clear hi; omega)]; exact ⟨rfl, fz⟩)
            | (rw [if_neg (by clear hi; omega), if_pos (by clear hi; omega), if_pos (by clear hi; omega)]; exact ⟨rfl, fz⟩)
            | (rw [if_neg (by clear hi; omega), if_pos (by clear hi; omega), if_neg (by clear hi; omega), htt]; exact ⟨rfl, fz⟩)
            | (rw [if_neg (by clear hi; omega), if_neg (by clear hi; omega), if_pos (by clear hi; omega), if_pos (by clear hi; omega)]; exact ⟨rfl, fz⟩)
            | (rw [if_neg (by clear hi; omega), if_neg (by clear hi; omega), if_pos (by clear hi; omega), if_neg (by clear hi; omega)]
               rcases hi with ⟨a, b, c⟩ | ⟨a, b⟩
               · first
                   | (rw [if_pos c]; exact ⟨rfl, fz⟩)
                   | exact absurd a (by omega)
               · first
                   | (rw [if_neg (by rcases b with b | b; exact absurd b (by omega); exact b)]; exact ⟨rfl, fz⟩)
                   | exact absurd a (by omega))
            | (clear hf hb; omega)
      · refine g_bipush dX7_markOf_98 (by decide) ?_
        refine g_goto (tgt := 132) dX7_markOf_100 (by decide) ?_
        refine g_ireturn dX7_markOf_132 (Or.inl rfl) ⟨_, rfl, ?_⟩
        have fz : FrM σ σ := FrM.rf σ
        unfold moA
        first
          | (rw [if_pos (by clear hi; omega)]; exact ⟨rfl, fz⟩)
          | (rw [if_neg (by clear hi; omega), if_pos (by clear hi; omega), if_pos (by clear hi; omega)]; exact ⟨rfl, fz⟩)
          | (rw [if_neg (by clear hi; omega), if_pos (by clear hi; omega), if_neg (by clear hi; omega), htt]; exact ⟨rfl, fz⟩)
          | (rw [if_neg (by clear hi; omega), if_neg (by clear hi; omega), if_pos (by clear hi; omega), if_pos (by clear hi; omega)]; exact ⟨rfl, fz⟩)
          | (rw [if_neg (by clear hi; omega), if_neg (by clear hi; omega), if_pos (by clear hi; omega), if_neg (by clear hi; omega)]
             rcases hi with ⟨a, b, c⟩ | ⟨a, b⟩
             · first
                 | (rw [if_pos c]; exact ⟨rfl, fz⟩)
                 | exact absurd a (by omega)
             · first
                 | (rw [if_neg (by rcases b with b | b; exact absurd b (by omega); exact b)]; exact ⟨rfl, fz⟩)
                 | exact absurd a (by omega))
          | (clear hf hb; omega)
  · refine g_aload_n dX7_markOf_75 rfl ?_
    refine g_getA dX7_markOf_76 tf_7_37 rfl rfl (mrf hf rfl) ?_
    refine g_iload dX7_markOf_79 rfl ?_
    refine g_ialdN ((10 * p + w)) dX7_markOf_81 rfl (by omega) (by omega) ?_
    refine g_ireturn dX7_markOf_82 (Or.inl rfl) ⟨_, rfl, ?_⟩
    have fz : FrM σ σ := FrM.rf σ
    unfold moA
    first
      | (rw [if_pos (by clear hi; omega)]; exact ⟨rfl, fz⟩)
      | (rw [if_neg (by clear hi; omega), if_pos (by clear hi; omega), if_pos (by clear hi; omega)]; exact ⟨rfl, fz⟩)
      | (rw [if_neg (by clear hi; omega), if_pos (by clear hi; omega), if_neg (by clear hi; omega), htt]; exact ⟨rfl, fz⟩)
      | (rw [if_neg (by clear hi; omega), if_neg (by clear hi; omega), if_pos (by clear hi; omega), if_pos (by clear hi; omega)]; exact ⟨rfl, fz⟩)
      | (rw [if_neg (by clear hi; omega), if_neg (by clear hi; omega), if_pos (by clear hi; omega), if_neg (by clear hi; omega)]
         rcases hi with ⟨a, b, c⟩ | ⟨a, b⟩
         · first
             | (rw [if_pos c]; exact ⟨rfl, fz⟩)
             | exact absurd a (by omega)
         · first
             | (rw [if_neg (by rcases b with b | b; exact absurd b (by omega); exact b)]; exact ⟨rfl, fz⟩)
             | exact absurd a (by omega))
      | (clear hf hb; omega)
theorem cm_markOf {D : Nat} (hD : 5 ≤ D) (σ : am_HS) (hf : σ.2.2 = mH) (hb : rgM σ) (hg : GM σ) (p w q : Int) (hmny : ∀ a b : Nat, a < 6 → b < 10 → hI σ 3 b = 2 → hI σ 10 (10 * a + b) ≤ 3) : am_Do lm D mX7_markOf σ [vR (some 0), vI p, vI w, vI q] (qI fun z s => (¬ (0 ≤ p ∧ p < hI σ 0 1 ∧ 0 ≤ w ∧ w < hI σ 0 2) ∧ z = -1 ∧ s = uI σ 1 1 (hI σ 1 1 + 1)) ∨ ((0 ≤ p ∧ p < hI σ 0 1 ∧ 0 ≤ w ∧ w < hI σ 0 2) ∧ ¬ (0 ≤ q ∧ q < 5) ∧ z = -2 ∧ s = uI σ 1 2 (hI σ 1 2 + 1)) ∨ ((0 ≤ p ∧ p < hI σ 0 1 ∧ 0 ≤ w ∧ w < hI σ 0 2) ∧ (0 ≤ q ∧ q < 5) ∧ z = moA σ p.toNat w.toNat q ∧ FrM σ s)) := by
  obtain ⟨hg1, hg2, hrf⟩ := id hg
  obtain ⟨d, rfl⟩ : ∃ d, D = d + 1 := ⟨D - 1, by omega⟩
  refine am_enter rfl rfl (Nat.le_of_ble_eq_true rfl) ?_
  refine g_aload_n dX7_markOf_0 rfl ?_
  refine g_iload_n dX7_markOf_1 rfl ?_
  refine g_callvI dX7_markOf_2 tm_7_151 rfl ⟨rfl, rfl⟩ rfl (Nat.le_of_ble_eq_true rfl) (cm_isPupil (by omega) σ _) (fun z2 s2 h2 => ?_)
  obtain ⟨h2, e2⟩ := h2
  obtain rfl := e2.symm
  refine g_if_eq (tgt := 16) dX7_markOf_5 (by decide) (fun c5 => ?_) (fun c5 => ?_)
  · refine g_aload_n dX7_markOf_16 rfl ?_
    refine g_iconst dX7_markOf_17 ⟨by decide, by decide⟩ ?_
    refine g_callvI dX7_markOf_18 tm_7_133 rfl ⟨rfl, rfl⟩ rfl (Nat.le_of_ble_eq_true rfl) (cm_refuse (by omega) σ hf _ ⟨by omega, by omega⟩ hg.2.2) (fun z18 s18 h18 => ?_)
    obtain ⟨rfl, rfl⟩ := h18
    refine g_ireturn dX7_markOf_21 (Or.inl rfl) ⟨_, rfl, ?_⟩
    first
      | exact Or.inl ⟨by omega, rfl, rfl⟩
      | exact Or.inr (Or.inl ⟨by omega, by omega, rfl, rfl⟩)
  · refine g_aload_n dX7_markOf_8 rfl ?_
    refine g_iload_n dX7_markOf_9 rfl ?_
    refine g_callvI dX7_markOf_10 tm_7_156 rfl ⟨rfl, rfl⟩ rfl (Nat.le_of_ble_eq_true rfl) (cm_isWork (by omega) σ _) (fun z10 s10 h10 => ?_)
    obtain ⟨h10, e10⟩ := h10
    obtain rfl := e10.symm
    refine g_if_ne (tgt := 22) dX7_markOf_13 (by decide) (fun c13 => ?_) (fun c13 => ?_)
    · refine g_iload_n dX7_markOf_22 rfl ?_
      refine g_iconst dX7_markOf_23 ⟨by decide, by decide⟩ ?_
      refine g_callsI dX7_markOf_24 tm_7_141 rfl ⟨Nat.le_of_ble_eq_true rfl, rfl, rfl⟩ (Nat.le_of_ble_eq_true rfl) (cm_isIn (by omega) σ _ _) (fun z24 s24 h24 => ?_)
      obtain ⟨h24, e24⟩ := h24
      obtain rfl := e24.symm
      refine g_if_ne (tgt := 37) dX7_markOf_27 (by decide) (fun c27 => ?_) (fun c27 => ?_)
      · obtain ⟨p, rfl⟩ : ∃ q : Nat, p = (q : Int) := ⟨p.toNat, by omega⟩
        obtain ⟨w, rfl⟩ : ∃ q : Nat, w = (q : Int) := ⟨w.toNat, by omega⟩
        have hp : p < 6 := by omega
        have hw : w < 10 := by omega
        have fin : ∀ i : Int, (i = 1 ∧ hI σ 15 (10 * p + w) ≠ 1 ∧ mkM σ p w ∨ i = 0 ∧ (hI σ 15 (10 * p + w) = 1 ∨ ¬ mkM σ p w)) → am_Go lm d 7 6 1 cX7_markOf 70 [some (vR (some 0)), some (vI (p : Int)), some (vI (w : Int)), some (vI q), some (vI (10 * (p : Int) + (w : Int))), some (vI i)] [] σ (qI fun z s => (¬ (0 ≤ (p : Int) ∧ (p : Int) < hI σ 0 1 ∧ 0 ≤ (w : Int) ∧ (w : Int) < hI σ 0 2) ∧ z = -1 ∧ s = uI σ 1 1 (hI σ 1 1 + 1)) ∨ ((0 ≤ (p : Int) ∧ (p : Int) < hI σ 0 1 ∧ 0 ≤ (w : Int) ∧ (w : Int) < hI σ 0 2) ∧ ¬ (0 ≤ q ∧ q < 5) ∧ z = -2 ∧ s = uI σ 1 2 (hI σ 1 2 + 1)) ∨ ((0 ≤ (p : Int) ∧ (p : Int) < hI σ 0 1 ∧ 0 ≤ (w : Int) ∧ (w : Int) < hI σ 0 2) ∧ (0 ≤ q ∧ q < 5) ∧ z = moA σ p w q ∧ FrM σ s)) := fun i hi => am_Go.mono (cm_markOfT (by clear hi; omega) σ hf hb p w hp hw (hmny p w hp hw) q (by clear hi; omega) _ hi) (fun _ _ ⟨z, h1, h2⟩ => ⟨z, h1, Or.inr (Or.inr ⟨by clear hi; omega, by clear hi; omega, h2⟩)⟩)
        have h15 : 0 ≤ hI σ 15 (10 * p + w) ∧ hI σ 15 (10 * p + w) ≤ 1 := hb 15 _
        refine g_iload_n dX7_markOf_37 rfl ?_
        refine g_iload_n dX7_markOf_38 rfl ?_
        refine g_callsI dX7_markOf_39 tm_7_159 rfl ⟨Nat.le_of_ble_eq_true rfl, rfl, rfl⟩ (Nat.le_of_ble_eq_true rfl) (cm_spot (by omega) _ _ _ ⟨by omega, by omega⟩ ⟨by omega, by omega⟩) (fun z39 s39 h39 => ?_)
        obtain ⟨rfl, e39⟩ := h39
        obtain rfl := e39.symm
        refine g_istore dX7_markOf_42 (by decide) rfl ?_
        refine g_aload_n dX7_markOf_44 rfl ?_
        refine g_getA dX7_markOf_45 tf_7_52 rfl rfl (mrf hf rfl) ?_
        refine g_iload dX7_markOf_48 rfl ?_
        refine g_zaldN ((10 * p + w)) dX7_markOf_50 rfl (by omega) (by omega) ?_
        refine g_if_ne (tgt := 67) dX7_markOf_51 (by decide) (fun c51 => ?_) (fun c51 => ?_)
        · refine g_iconst dX7_markOf_67 ⟨by decide, by decide⟩ ?_
          refine g_istore dX7_markOf_68 (by decide) rfl ?_
          first
            | exact fin 0 (Or.inr ⟨rfl, Or.inl (by omega)⟩)
            | exact fin 1 (Or.inl ⟨rfl, by omega, by rcases h57 with ⟨a, b⟩ | ⟨a, b⟩; exact b; exact absurd a c60⟩)
            | exact fin 0 (Or.inr ⟨rfl, Or.inr (by rcases h57 with ⟨a, b⟩ | ⟨a, b⟩; exact absurd (a.symm.trans c60) (by decide); exact b)⟩)
        · refine g_aload_n dX7_markOf_54 rfl ?_
          refine g_iload_n dX7_markOf_55 rfl ?_
          refine g_iload_n dX7_markOf_56 rfl ?_
          refine g_callvI dX7_markOf_57 tm_7_324 rfl ⟨rfl, rfl⟩ rfl (Nat.le_of_ble_eq_true rfl) (cm_isMarked (by omega) σ hf hb p w hp hw) (fun z57 s57 h57 => ?_)
          obtain ⟨h57, e57⟩ := h57
          obtain rfl := e57.symm
          refine g_if_eq (tgt := 67) dX7_markOf_60 (by decide) (fun c60 => ?_) (fun c60 => ?_)
          · refine g_iconst dX7_markOf_67 ⟨by decide, by decide⟩ ?_
            refine g_istore dX7_markOf_68 (by decide) rfl ?_
            first
              | exact fin 0 (Or.inr ⟨rfl, Or.inl (by omega)⟩)
              | exact fin 1 (Or.inl ⟨rfl, by omega, by rcases h57 with ⟨a, b⟩ | ⟨a, b⟩; exact b; exact absurd a c60⟩)
              | exact fin 0 (Or.inr ⟨rfl, Or.inr (by rcases h57 with ⟨a, b⟩ | ⟨a, b⟩; exact absurd (a.symm.trans c60) (by decide); exact b)⟩)
          · refine g_iconst dX7_markOf_63 ⟨by decide, by decide⟩ ?_
            refine g_goto (tgt := 68) dX7_markOf_64 (by decide) ?_
            refine g_istore dX7_markOf_68 (by decide) rfl ?_
            first
              | exact fin 0 (Or.inr ⟨rfl, Or.inl (by omega)⟩)
              | exact fin 1 (Or.inl ⟨rfl, by omega, by rcases h57 with ⟨a, b⟩ | ⟨a, b⟩; exact b; exact absurd a c60⟩)
              | exact fin 0 (Or.inr ⟨rfl, Or.inr (by rcases h57 with ⟨a, b⟩ | ⟨a, b⟩; exact absurd (a.symm.trans c60) (by decide); exact b)⟩)
      · refine g_aload_n dX7_markOf_30 rfl ?_
        refine g_bipush dX7_markOf_31 (by decide) ?_
        refine g_callvI dX7_markOf_33 tm_7_133 rfl ⟨rfl, rfl⟩ rfl (Nat.le_of_ble_eq_true rfl) (cm_refuse (by omega) σ hf _ ⟨by omega, by omega⟩ hg.2.2) (fun z33 s33 h33 => ?_)
        obtain ⟨rfl, rfl⟩ := h33
        refine g_ireturn dX7_markOf_36 (Or.inl rfl) ⟨_, rfl, ?_⟩
        first
          | exact Or.inl ⟨by omega, rfl, rfl⟩
          | exact Or.inr (Or.inl ⟨by omega, by omega, rfl, rfl⟩)
    · refine g_aload_n dX7_markOf_16 rfl ?_
      refine g_iconst dX7_markOf_17 ⟨by decide, by decide⟩ ?_
      refine g_callvI dX7_markOf_18 tm_7_133 rfl ⟨rfl, rfl⟩ rfl (Nat.le_of_ble_eq_true rfl) (cm_refuse (by omega) σ hf _ ⟨by omega, by omega⟩ hg.2.2) (fun z18 s18 h18 => ?_)
      obtain ⟨rfl, rfl⟩ := h18
      refine g_ireturn dX7_markOf_21 (Or.inl rfl) ⟨_, rfl, ?_⟩
      first
        | exact Or.inl ⟨by omega, rfl, rfl⟩
        | exact Or.inr (Or.inl ⟨by omega, by omega, rfl, rfl⟩)

