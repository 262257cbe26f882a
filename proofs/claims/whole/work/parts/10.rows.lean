/-! ROWS over the abstract machine: an instruction, a row -/
abbrev am_L : Type := Nat → Nat ⊕ (Nat × Nat)
/-- from here on the method ends, and Q holds of its answer and of the cells -/
def am_Go (lay : am_L) (d c nL rt : Nat) (bb : ByteArray) (pc : Nat) (lv : am_LV) (st : List am_V) (σ : am_HS) (Q : Option am_V → am_HS → Prop) : Prop := ∃ r σ1, Q r σ1 ∧ ∃ n, am_gi am_T0 am_M0 lay (am_Ev am_T0 am_M0 lay d) c nL rt bb n pc lv st σ r σ1
/-- a method's contract -/
def am_Do (lay : am_L) (d mi : Nat) (σ : am_HS) (args : List am_V) (Q : Option am_V → am_HS → Prop) : Prop := ∃ r σ1, Q r σ1 ∧ am_Ev am_T0 am_M0 lay d mi σ args r σ1
section ROWS
variable {lay : am_L} {d c nL rt : Nat} {bb : ByteArray} {pc : Nat} {lv : am_LV} {st r : List am_V} {σ : am_HS} {Q : Option am_V → am_HS → Prop}
theorem am_enter {mi D np rc : Nat} {sb : Bool} {args : List am_V} (hM : am_M0 mi = (c, bb, nL, np, rt, sb, rc)) (hd : D = d + 1) (hc : am_cats args ≤ nL) (h : am_Go lay d c nL rt bb 0 (am_ent args nL) [] σ Q) : am_Do lay D mi σ args Q := by
  subst hd
  obtain ⟨r, σ1, hq, n, hn⟩ := h
  refine ⟨r, σ1, hq, ?_⟩
  unfold am_Ev
  rw [hM]
  exact ⟨hc, n, hn⟩
theorem am_Do.mono {mi D : Nat} {args : List am_V} {Q' : Option am_V → am_HS → Prop} (h : am_Do lay D mi σ args Q) (hq : ∀ r σ1, Q r σ1 → Q' r σ1) : am_Do lay D mi σ args Q' := by
  obtain ⟨r, σ1, h1, h2⟩ := h
  exact ⟨r, σ1, hq r σ1 h1, h2⟩
theorem am_Go.mono {Q' : Option am_V → am_HS → Prop} (h : am_Go lay d c nL rt bb pc lv st σ Q) (hq : ∀ r σ1, Q r σ1 → Q' r σ1) : am_Go lay d c nL rt bb pc lv st σ Q' := by
  obtain ⟨r, σ1, h1, h2⟩ := h
  exact ⟨r, σ1, hq r σ1 h1, h2⟩
theorem g_iconst {n : Int} (hd : decode bb pc = .ok (.iconst n, 1)) (h1 : rI n) (h : am_Go lay d c nL rt bb (pc + 1) (lv) (vI n :: st) (σ) Q) : am_Go lay d c nL rt bb (pc) (lv) (st) (σ) Q := by
  obtain ⟨r0, σ1, hq, n, hn⟩ := h
  refine ⟨r0, σ1, hq, n + 1, ?_⟩
  unfold am_gi
  rw [hd]
  exact ⟨rfl, h1, hn⟩
theorem g_bipush {n : Int} (hd : decode bb pc = .ok (.bipush n, 2)) (h1 : -128 ≤ n ∧ n ≤ 127) (h : am_Go lay d c nL rt bb (pc + 2) (lv) (vI n :: st) (σ) Q) : am_Go lay d c nL rt bb (pc) (lv) (st) (σ) Q := by
  obtain ⟨r0, σ1, hq, n, hn⟩ := h
  refine ⟨r0, σ1, hq, n + 1, ?_⟩
  unfold am_gi
  rw [hd]
  exact ⟨rfl, h1, hn⟩
theorem g_sipush {n : Int} (hd : decode bb pc = .ok (.sipush n, 3)) (h1 : -32768 ≤ n ∧ n ≤ 32767) (h : am_Go lay d c nL rt bb (pc + 3) (lv) (vI n :: st) (σ) Q) : am_Go lay d c nL rt bb (pc) (lv) (st) (σ) Q := by
  obtain ⟨r0, σ1, hq, n, hn⟩ := h
  refine ⟨r0, σ1, hq, n + 1, ?_⟩
  unfold am_gi
  rw [hd]
  exact ⟨rfl, h1, hn⟩
theorem g_lconst {n : Fin 2} (hd : decode bb pc = .ok (.lconst n, 1)) (h : am_Go lay d c nL rt bb (pc + 1) (lv) (vL ((n : Nat) : Int) :: st) (σ) Q) : am_Go lay d c nL rt bb (pc) (lv) (st) (σ) Q := by
  obtain ⟨r0, σ1, hq, n, hn⟩ := h
  refine ⟨r0, σ1, hq, n + 1, ?_⟩
  unfold am_gi
  rw [hd]
  exact ⟨rfl, hn⟩
theorem g_null (hd : decode bb pc = .ok (.aconst_null, 1)) (h : am_Go lay d c nL rt bb (pc + 1) (lv) (vR none :: st) (σ) Q) : am_Go lay d c nL rt bb (pc) (lv) (st) (σ) Q := by
  obtain ⟨r0, σ1, hq, n, hn⟩ := h
  refine ⟨r0, σ1, hq, n + 1, ?_⟩
  unfold am_gi
  rw [hd]
  exact ⟨rfl, hn⟩
theorem g_iload_n {k : Fin 4} {x : Int} (hd : decode bb pc = .ok (.iload_n k, 1)) (h1 : lvg lv k = some (vI x)) (h : am_Go lay d c nL rt bb (pc + 1) (lv) (vI x :: st) (σ) Q) : am_Go lay d c nL rt bb (pc) (lv) (st) (σ) Q := by
  obtain ⟨r0, σ1, hq, n, hn⟩ := h
  refine ⟨r0, σ1, hq, n + 1, ?_⟩
  unfold am_gi
  rw [hd]
  exact ⟨rfl, x, h1, hn⟩
theorem g_iload {k : Nat} {x : Int} (hd : decode bb pc = .ok (.iload k, 2)) (h1 : lvg lv k = some (vI x)) (h : am_Go lay d c nL rt bb (pc + 2) (lv) (vI x :: st) (σ) Q) : am_Go lay d c nL rt bb (pc) (lv) (st) (σ) Q := by
  obtain ⟨r0, σ1, hq, n, hn⟩ := h
  refine ⟨r0, σ1, hq, n + 1, ?_⟩
  unfold am_gi
  rw [hd]
  exact ⟨rfl, x, h1, hn⟩
theorem g_istore_n {k : Fin 4} {x : Int} {lv' : am_LV} (hd : decode bb pc = .ok (.istore_n k, 1)) (h1 : (k : Nat) < nL) (h2 : lst1 lv k (vI x) = lv') (h : am_Go lay d c nL rt bb (pc + 1) (lv') (st) (σ) Q) : am_Go lay d c nL rt bb (pc) (lv) (vI x :: st) (σ) Q := by
  subst h2
  obtain ⟨r0, σ1, hq, n, hn⟩ := h
  refine ⟨r0, σ1, hq, n + 1, ?_⟩
  unfold am_gi
  rw [hd]
  exact ⟨rfl, h1, hn⟩
theorem g_istore {k : Nat} {x : Int} {lv' : am_LV} (hd : decode bb pc = .ok (.istore k, 2)) (h1 : k < nL) (h2 : lst1 lv k (vI x) = lv') (h : am_Go lay d c nL rt bb (pc + 2) (lv') (st) (σ) Q) : am_Go lay d c nL rt bb (pc) (lv) (vI x :: st) (σ) Q := by
  subst h2
  obtain ⟨r0, σ1, hq, n, hn⟩ := h
  refine ⟨r0, σ1, hq, n + 1, ?_⟩
  unfold am_gi
  rw [hd]
  exact ⟨rfl, h1, hn⟩
theorem g_lload_n {k : Fin 4} {x : Int} (hd : decode bb pc = .ok (.lload_n k, 1)) (h1 : lvg lv k = some (vL x)) (h : am_Go lay d c nL rt bb (pc + 1) (lv) (vL x :: st) (σ) Q) : am_Go lay d c nL rt bb (pc) (lv) (st) (σ) Q := by
  obtain ⟨r0, σ1, hq, n, hn⟩ := h
  refine ⟨r0, σ1, hq, n + 1, ?_⟩
  unfold am_gi
  rw [hd]
  exact ⟨rfl, x, h1, hn⟩
theorem g_lload {k : Nat} {x : Int} (hd : decode bb pc = .ok (.lload k, 2)) (h1 : lvg lv k = some (vL x)) (h : am_Go lay d c nL rt bb (pc + 2) (lv) (vL x :: st) (σ) Q) : am_Go lay d c nL rt bb (pc) (lv) (st) (σ) Q := by
  obtain ⟨r0, σ1, hq, n, hn⟩ := h
  refine ⟨r0, σ1, hq, n + 1, ?_⟩
  unfold am_gi
  rw [hd]
  exact ⟨rfl, x, h1, hn⟩
theorem g_lstore_n {k : Fin 4} {x : Int} {lv' : am_LV} (hd : decode bb pc = .ok (.lstore_n k, 1)) (h1 : (k : Nat) + 1 < nL) (h2 : lst2 lv k (vL x) = lv') (h : am_Go lay d c nL rt bb (pc + 1) (lv') (st) (σ) Q) : am_Go lay d c nL rt bb (pc) (lv) (vL x :: st) (σ) Q := by
  subst h2
  obtain ⟨r0, σ1, hq, n, hn⟩ := h
  refine ⟨r0, σ1, hq, n + 1, ?_⟩
  unfold am_gi
  rw [hd]
  exact ⟨rfl, h1, hn⟩
theorem g_lstore {k : Nat} {x : Int} {lv' : am_LV} (hd : decode bb pc = .ok (.lstore k, 2)) (h1 : k + 1 < nL) (h2 : lst2 lv k (vL x) = lv') (h : am_Go lay d c nL rt bb (pc + 2) (lv') (st) (σ) Q) : am_Go lay d c nL rt bb (pc) (lv) (vL x :: st) (σ) Q := by
  subst h2
  obtain ⟨r0, σ1, hq, n, hn⟩ := h
  refine ⟨r0, σ1, hq, n + 1, ?_⟩
  unfold am_gi
  rw [hd]
  exact ⟨rfl, h1, hn⟩
theorem g_aload_n {k : Fin 4} {x : Option Nat} (hd : decode bb pc = .ok (.aload_n k, 1)) (h1 : lvg lv k = some (vR x)) (h : am_Go lay d c nL rt bb (pc + 1) (lv) (vR x :: st) (σ) Q) : am_Go lay d c nL rt bb (pc) (lv) (st) (σ) Q := by
  obtain ⟨r0, σ1, hq, n, hn⟩ := h
  refine ⟨r0, σ1, hq, n + 1, ?_⟩
  unfold am_gi
  rw [hd]
  exact ⟨rfl, x, h1, hn⟩
theorem g_aload {k : Nat} {x : Option Nat} (hd : decode bb pc = .ok (.aload k, 2)) (h1 : lvg lv k = some (vR x)) (h : am_Go lay d c nL rt bb (pc + 2) (lv) (vR x :: st) (σ) Q) : am_Go lay d c nL rt bb (pc) (lv) (st) (σ) Q := by
  obtain ⟨r0, σ1, hq, n, hn⟩ := h
  refine ⟨r0, σ1, hq, n + 1, ?_⟩
  unfold am_gi
  rw [hd]
  exact ⟨rfl, x, h1, hn⟩
theorem g_astore_n {k : Fin 4} {x : Option Nat} {lv' : am_LV} (hd : decode bb pc = .ok (.astore_n k, 1)) (h1 : (k : Nat) < nL) (h2 : lst1 lv k (vR x) = lv') (h : am_Go lay d c nL rt bb (pc + 1) (lv') (st) (σ) Q) : am_Go lay d c nL rt bb (pc) (lv) (vR x :: st) (σ) Q := by
  subst h2
  obtain ⟨r0, σ1, hq, n, hn⟩ := h
  refine ⟨r0, σ1, hq, n + 1, ?_⟩
  unfold am_gi
  rw [hd]
  exact ⟨rfl, h1, hn⟩
theorem g_astore {k : Nat} {x : Option Nat} {lv' : am_LV} (hd : decode bb pc = .ok (.astore k, 2)) (h1 : k < nL) (h2 : lst1 lv k (vR x) = lv') (h : am_Go lay d c nL rt bb (pc + 2) (lv') (st) (σ) Q) : am_Go lay d c nL rt bb (pc) (lv) (vR x :: st) (σ) Q := by
  subst h2
  obtain ⟨r0, σ1, hq, n, hn⟩ := h
  refine ⟨r0, σ1, hq, n + 1, ?_⟩
  unfold am_gi
  rw [hd]
  exact ⟨rfl, h1, hn⟩
theorem g_iinc {k : Nat} {n x y : Int} {lv' : am_LV} (hd : decode bb pc = .ok (.iinc k n, 3)) (h1 : k < nL) (h2 : lvg lv k = some (vI x)) (hr : rI (x + n)) (hy : x + n = y) (h3 : lst1 lv k (vI y) = lv') (h : am_Go lay d c nL rt bb (pc + 3) (lv') (st) (σ) Q) : am_Go lay d c nL rt bb (pc) (lv) (st) (σ) Q := by
  subst h3
  subst hy
  obtain ⟨r0, σ1, hq, m, hn⟩ := h
  refine ⟨r0, σ1, hq, m + 1, ?_⟩
  unfold am_gi
  rw [hd]
  refine ⟨rfl, h1, x, h2, ?_⟩
  rw [wI_e hr]
  exact hn
theorem g_iadd {x y z : Int} (hd : decode bb pc = .ok (.iadd, 1)) (hz : x + y = z) (hr : rI z) (h : am_Go lay d c nL rt bb (pc + 1) (lv) (vI z :: st) (σ) Q) : am_Go lay d c nL rt bb (pc) (lv) (vI y :: vI x :: st) (σ) Q := by
  subst hz
  obtain ⟨r0, σ1, hq, n, hn⟩ := h
  refine ⟨r0, σ1, hq, n + 1, ?_⟩
  unfold am_gi
  rw [hd]
  rw [← wI_e hr] at hn
  exact ⟨rfl, hn⟩
theorem g_isub {x y z : Int} (hd : decode bb pc = .ok (.isub, 1)) (hz : x - y = z) (hr : rI z) (h : am_Go lay d c nL rt bb (pc + 1) (lv) (vI z :: st) (σ) Q) : am_Go lay d c nL rt bb (pc) (lv) (vI y :: vI x :: st) (σ) Q := by
  subst hz
  obtain ⟨r0, σ1, hq, n, hn⟩ := h
  refine ⟨r0, σ1, hq, n + 1, ?_⟩
  unfold am_gi
  rw [hd]
  rw [← wI_e hr] at hn
  exact ⟨rfl, hn⟩
theorem g_imul {x y z : Int} (hd : decode bb pc = .ok (.imul, 1)) (hz : x * y = z) (hr : rI z) (h : am_Go lay d c nL rt bb (pc + 1) (lv) (vI z :: st) (σ) Q) : am_Go lay d c nL rt bb (pc) (lv) (vI y :: vI x :: st) (σ) Q := by
  subst hz
  obtain ⟨r0, σ1, hq, n, hn⟩ := h
  refine ⟨r0, σ1, hq, n + 1, ?_⟩
  unfold am_gi
  rw [hd]
  rw [← wI_e hr] at hn
  exact ⟨rfl, hn⟩
theorem g_ladd {x y z : Int} (hd : decode bb pc = .ok (.ladd, 1)) (hz : x + y = z) (hr : rL z) (h : am_Go lay d c nL rt bb (pc + 1) (lv) (vL z :: st) (σ) Q) : am_Go lay d c nL rt bb (pc) (lv) (vL y :: vL x :: st) (σ) Q := by
  subst hz
  obtain ⟨r0, σ1, hq, n, hn⟩ := h
  refine ⟨r0, σ1, hq, n + 1, ?_⟩
  unfold am_gi
  rw [hd]
  rw [← wL_e hr] at hn
  exact ⟨rfl, hn⟩
theorem g_lsub {x y z : Int} (hd : decode bb pc = .ok (.lsub, 1)) (hz : x - y = z) (hr : rL z) (h : am_Go lay d c nL rt bb (pc + 1) (lv) (vL z :: st) (σ) Q) : am_Go lay d c nL rt bb (pc) (lv) (vL y :: vL x :: st) (σ) Q := by
  subst hz
  obtain ⟨r0, σ1, hq, n, hn⟩ := h
  refine ⟨r0, σ1, hq, n + 1, ?_⟩
  unfold am_gi
  rw [hd]
  rw [← wL_e hr] at hn
  exact ⟨rfl, hn⟩
theorem g_lmul {x y z : Int} (hd : decode bb pc = .ok (.lmul, 1)) (hz : x * y = z) (hr : rL z) (h : am_Go lay d c nL rt bb (pc + 1) (lv) (vL z :: st) (σ) Q) : am_Go lay d c nL rt bb (pc) (lv) (vL y :: vL x :: st) (σ) Q := by
  subst hz
  obtain ⟨r0, σ1, hq, n, hn⟩ := h
  refine ⟨r0, σ1, hq, n + 1, ?_⟩
  unfold am_gi
  rw [hd]
  rw [← wL_e hr] at hn
  exact ⟨rfl, hn⟩
theorem g_idiv {x y z : Int} (hd : decode bb pc = .ok (.idiv, 1)) (h0 : y ≠ 0) (hz : x.tdiv y = z) (hr : rI z) (h : am_Go lay d c nL rt bb (pc + 1) (lv) (vI z :: st) (σ) Q) : am_Go lay d c nL rt bb (pc) (lv) (vI y :: vI x :: st) (σ) Q := by
  subst hz
  obtain ⟨r0, σ1, hq, n, hn⟩ := h
  refine ⟨r0, σ1, hq, n + 1, ?_⟩
  unfold am_gi
  rw [hd]
  rw [← wI_e hr] at hn
  exact ⟨rfl, h0, hn⟩
theorem g_irem {x y z : Int} (hd : decode bb pc = .ok (.irem, 1)) (h0 : y ≠ 0) (hz : x.tmod y = z) (hr : rI z) (h : am_Go lay d c nL rt bb (pc + 1) (lv) (vI z :: st) (σ) Q) : am_Go lay d c nL rt bb (pc) (lv) (vI y :: vI x :: st) (σ) Q := by
  subst hz
  obtain ⟨r0, σ1, hq, n, hn⟩ := h
  refine ⟨r0, σ1, hq, n + 1, ?_⟩
  unfold am_gi
  rw [hd]
  rw [← wI_e hr] at hn
  exact ⟨rfl, h0, hn⟩
theorem g_ldiv {x y z : Int} (hd : decode bb pc = .ok (.ldiv, 1)) (h0 : y ≠ 0) (hz : x.tdiv y = z) (hr : rL z) (h : am_Go lay d c nL rt bb (pc + 1) (lv) (vL z :: st) (σ) Q) : am_Go lay d c nL rt bb (pc) (lv) (vL y :: vL x :: st) (σ) Q := by
  subst hz
  obtain ⟨r0, σ1, hq, n, hn⟩ := h
  refine ⟨r0, σ1, hq, n + 1, ?_⟩
  unfold am_gi
  rw [hd]
  rw [← wL_e hr] at hn
  exact ⟨rfl, h0, hn⟩
theorem g_lrem {x y z : Int} (hd : decode bb pc = .ok (.lrem, 1)) (h0 : y ≠ 0) (hz : x.tmod y = z) (hr : rL z) (h : am_Go lay d c nL rt bb (pc + 1) (lv) (vL z :: st) (σ) Q) : am_Go lay d c nL rt bb (pc) (lv) (vL y :: vL x :: st) (σ) Q := by
  subst hz
  obtain ⟨r0, σ1, hq, n, hn⟩ := h
  refine ⟨r0, σ1, hq, n + 1, ?_⟩
  unfold am_gi
  rw [hd]
  rw [← wL_e hr] at hn
  exact ⟨rfl, h0, hn⟩
theorem g_iand {x y z : Int} (hd : decode bb pc = .ok (.iand, 1)) (hz : (Int32.ofInt x &&& Int32.ofInt y).toInt = z) (h : am_Go lay d c nL rt bb (pc + 1) (lv) (vI z :: st) (σ) Q) : am_Go lay d c nL rt bb (pc) (lv) (vI y :: vI x :: st) (σ) Q := by
  subst hz
  obtain ⟨r0, σ1, hq, n, hn⟩ := h
  refine ⟨r0, σ1, hq, n + 1, ?_⟩
  unfold am_gi
  rw [hd]
  exact ⟨rfl, hn⟩
theorem g_ior {x y z : Int} (hd : decode bb pc = .ok (.ior, 1)) (hz : (Int32.ofInt x ||| Int32.ofInt y).toInt = z) (h : am_Go lay d c nL rt bb (pc + 1) (lv) (vI z :: st) (σ) Q) : am_Go lay d c nL rt bb (pc) (lv) (vI y :: vI x :: st) (σ) Q := by
  subst hz
  obtain ⟨r0, σ1, hq, n, hn⟩ := h
  refine ⟨r0, σ1, hq, n + 1, ?_⟩
  unfold am_gi
  rw [hd]
  exact ⟨rfl, hn⟩
theorem g_ixor {x y z : Int} (hd : decode bb pc = .ok (.ixor, 1)) (hz : (Int32.ofInt x ^^^ Int32.ofInt y).toInt = z) (h : am_Go lay d c nL rt bb (pc + 1) (lv) (vI z :: st) (σ) Q) : am_Go lay d c nL rt bb (pc) (lv) (vI y :: vI x :: st) (σ) Q := by
  subst hz
  obtain ⟨r0, σ1, hq, n, hn⟩ := h
  refine ⟨r0, σ1, hq, n + 1, ?_⟩
  unfold am_gi
  rw [hd]
  exact ⟨rfl, hn⟩
theorem g_ishl {x y z : Int} (hd : decode bb pc = .ok (.ishl, 1)) (hz : (Int32.ofInt x <<< (Int32.ofInt y &&& 31)).toInt = z) (h : am_Go lay d c nL rt bb (pc + 1) (lv) (vI z :: st) (σ) Q) : am_Go lay d c nL rt bb (pc) (lv) (vI y :: vI x :: st) (σ) Q := by
  subst hz
  obtain ⟨r0, σ1, hq, n, hn⟩ := h
  refine ⟨r0, σ1, hq, n + 1, ?_⟩
  unfold am_gi
  rw [hd]
  exact ⟨rfl, hn⟩
theorem g_ishr {x y z : Int} (hd : decode bb pc = .ok (.ishr, 1)) (hz : (Int32.ofInt x >>> (Int32.ofInt y &&& 31)).toInt = z) (h : am_Go lay d c nL rt bb (pc + 1) (lv) (vI z :: st) (σ) Q) : am_Go lay d c nL rt bb (pc) (lv) (vI y :: vI x :: st) (σ) Q := by
  subst hz
  obtain ⟨r0, σ1, hq, n, hn⟩ := h
  refine ⟨r0, σ1, hq, n + 1, ?_⟩
  unfold am_gi
  rw [hd]
  exact ⟨rfl, hn⟩
theorem g_iushr {x y z : Int} (hd : decode bb pc = .ok (.iushr, 1)) (hz : (((Int32.ofInt x).toUInt32 >>> ((Int32.ofInt y).toUInt32 &&& Int32.toUInt32 31)).toInt32).toInt = z) (h : am_Go lay d c nL rt bb (pc + 1) (lv) (vI z :: st) (σ) Q) : am_Go lay d c nL rt bb (pc) (lv) (vI y :: vI x :: st) (σ) Q := by
  subst hz
  obtain ⟨r0, σ1, hq, n, hn⟩ := h
  refine ⟨r0, σ1, hq, n + 1, ?_⟩
  unfold am_gi
  rw [hd]
  exact ⟨rfl, hn⟩
theorem g_land {x y z : Int} (hd : decode bb pc = .ok (.land, 1)) (hz : (Int64.ofInt x &&& Int64.ofInt y).toInt = z) (h : am_Go lay d c nL rt bb (pc + 1) (lv) (vL z :: st) (σ) Q) : am_Go lay d c nL rt bb (pc) (lv) (vL y :: vL x :: st) (σ) Q := by
  subst hz
  obtain ⟨r0, σ1, hq, n, hn⟩ := h
  refine ⟨r0, σ1, hq, n + 1, ?_⟩
  unfold am_gi
  rw [hd]
  exact ⟨rfl, hn⟩
theorem g_lor {x y z : Int} (hd : decode bb pc = .ok (.lor, 1)) (hz : (Int64.ofInt x ||| Int64.ofInt y).toInt = z) (h : am_Go lay d c nL rt bb (pc + 1) (lv) (vL z :: st) (σ) Q) : am_Go lay d c nL rt bb (pc) (lv) (vL y :: vL x :: st) (σ) Q := by
  subst hz
  obtain ⟨r0, σ1, hq, n, hn⟩ := h
  refine ⟨r0, σ1, hq, n + 1, ?_⟩
  unfold am_gi
  rw [hd]
  exact ⟨rfl, hn⟩
theorem g_lshl {x y z : Int} (hd : decode bb pc = .ok (.lshl, 1)) (hz : (Int64.ofInt x <<< ((Int32.ofInt y).toInt64 &&& 63)).toInt = z) (h : am_Go lay d c nL rt bb (pc + 1) (lv) (vL z :: st) (σ) Q) : am_Go lay d c nL rt bb (pc) (lv) (vI y :: vL x :: st) (σ) Q := by
  subst hz
  obtain ⟨r0, σ1, hq, n, hn⟩ := h
  refine ⟨r0, σ1, hq, n + 1, ?_⟩
  unfold am_gi
  rw [hd]
  exact ⟨rfl, hn⟩
theorem g_lshr {x y z : Int} (hd : decode bb pc = .ok (.lshr, 1)) (hz : (Int64.ofInt x >>> ((Int32.ofInt y).toInt64 &&& 63)).toInt = z) (h : am_Go lay d c nL rt bb (pc + 1) (lv) (vL z :: st) (σ) Q) : am_Go lay d c nL rt bb (pc) (lv) (vI y :: vL x :: st) (σ) Q := by
  subst hz
  obtain ⟨r0, σ1, hq, n, hn⟩ := h
  refine ⟨r0, σ1, hq, n + 1, ?_⟩
  unfold am_gi
  rw [hd]
  exact ⟨rfl, hn⟩
theorem g_ineg {x z : Int} (hd : decode bb pc = .ok (.ineg, 1)) (hz : -x = z) (hr : rI z) (h : am_Go lay d c nL rt bb (pc + 1) (lv) (vI z :: st) (σ) Q) : am_Go lay d c nL rt bb (pc) (lv) (vI x :: st) (σ) Q := by
  subst hz
  obtain ⟨r0, σ1, hq, n, hn⟩ := h
  refine ⟨r0, σ1, hq, n + 1, ?_⟩
  unfold am_gi
  rw [hd]
  rw [← wI_e hr] at hn
  exact ⟨rfl, hn⟩
theorem g_lneg {x z : Int} (hd : decode bb pc = .ok (.lneg, 1)) (hz : -x = z) (hr : rL z) (h : am_Go lay d c nL rt bb (pc + 1) (lv) (vL z :: st) (σ) Q) : am_Go lay d c nL rt bb (pc) (lv) (vL x :: st) (σ) Q := by
  subst hz
  obtain ⟨r0, σ1, hq, n, hn⟩ := h
  refine ⟨r0, σ1, hq, n + 1, ?_⟩
  unfold am_gi
  rw [hd]
  rw [← wL_e hr] at hn
  exact ⟨rfl, hn⟩
theorem g_lcmp {x y : Int} (hd : decode bb pc = .ok (.lcmp, 1)) (h : am_Go lay d c nL rt bb (pc + 1) (lv) (vI (am_lcmp x y) :: st) (σ) Q) : am_Go lay d c nL rt bb (pc) (lv) (vL y :: vL x :: st) (σ) Q := by
  obtain ⟨r0, σ1, hq, n, hn⟩ := h
  refine ⟨r0, σ1, hq, n + 1, ?_⟩
  unfold am_gi
  rw [hd]
  exact ⟨rfl, hn⟩
theorem g_i2l {x : Int} (hd : decode bb pc = .ok (.i2l, 1)) (h : am_Go lay d c nL rt bb (pc + 1) (lv) (vL x :: st) (σ) Q) : am_Go lay d c nL rt bb (pc) (lv) (vI x :: st) (σ) Q := by
  obtain ⟨r0, σ1, hq, n, hn⟩ := h
  refine ⟨r0, σ1, hq, n + 1, ?_⟩
  unfold am_gi
  rw [hd]
  exact ⟨rfl, hn⟩
theorem g_l2i {x : Int} (hd : decode bb pc = .ok (.l2i, 1)) (hr : rI x) (h : am_Go lay d c nL rt bb (pc + 1) (lv) (vI x :: st) (σ) Q) : am_Go lay d c nL rt bb (pc) (lv) (vL x :: st) (σ) Q := by
  obtain ⟨r0, σ1, hq, n, hn⟩ := h
  refine ⟨r0, σ1, hq, n + 1, ?_⟩
  unfold am_gi
  rw [hd]
  rw [← wI_e hr] at hn
  exact ⟨rfl, hn⟩
theorem g_i2b {x z : Int} (hd : decode bb pc = .ok (.i2b, 1)) (hz : ((Int32.ofInt x).toInt8.toInt32).toInt = z) (h : am_Go lay d c nL rt bb (pc + 1) (lv) (vI z :: st) (σ) Q) : am_Go lay d c nL rt bb (pc) (lv) (vI x :: st) (σ) Q := by
  subst hz
  obtain ⟨r0, σ1, hq, n, hn⟩ := h
  refine ⟨r0, σ1, hq, n + 1, ?_⟩
  unfold am_gi
  rw [hd]
  exact ⟨rfl, hn⟩
theorem g_dup {v : am_V} (hd : decode bb pc = .ok (.dup, 1)) (h1 : am_cat v = 1) (h : am_Go lay d c nL rt bb (pc + 1) (lv) (v :: v :: st) (σ) Q) : am_Go lay d c nL rt bb (pc) (lv) (v :: st) (σ) Q := by
  obtain ⟨r0, σ1, hq, n, hn⟩ := h
  refine ⟨r0, σ1, hq, n + 1, ?_⟩
  unfold am_gi
  rw [hd]
  exact ⟨rfl, h1, hn⟩
theorem g_pop {v : am_V} (hd : decode bb pc = .ok (.pop, 1)) (h1 : am_cat v = 1) (h : am_Go lay d c nL rt bb (pc + 1) (lv) (st) (σ) Q) : am_Go lay d c nL rt bb (pc) (lv) (v :: st) (σ) Q := by
  obtain ⟨r0, σ1, hq, n, hn⟩ := h
  refine ⟨r0, σ1, hq, n + 1, ?_⟩
  unfold am_gi
  rw [hd]
  exact ⟨rfl, h1, hn⟩
theorem g_dup_x1 {v u : am_V} (hd : decode bb pc = .ok (.dup_x1, 1)) (h1 : am_cat v = 1) (h2 : am_cat u = 1) (h : am_Go lay d c nL rt bb (pc + 1) (lv) (v :: u :: v :: st) (σ) Q) : am_Go lay d c nL rt bb (pc) (lv) (v :: u :: st) (σ) Q := by
  obtain ⟨r0, σ1, hq, n, hn⟩ := h
  refine ⟨r0, σ1, hq, n + 1, ?_⟩
  unfold am_gi
  rw [hd]
  exact ⟨rfl, h1, h2, hn⟩
theorem g_dup2_2 {v : am_V} (hd : decode bb pc = .ok (.dup2, 1)) (h1 : am_cat v = 2) (h : am_Go lay d c nL rt bb (pc + 1) (lv) (v :: v :: st) (σ) Q) : am_Go lay d c nL rt bb (pc) (lv) (v :: st) (σ) Q := by
  obtain ⟨r0, σ1, hq, n, hn⟩ := h
  refine ⟨r0, σ1, hq, n + 1, ?_⟩
  unfold am_gi
  rw [hd]
  exact ⟨rfl, Or.inl ⟨h1, hn⟩⟩
theorem g_dup2_11 {v u : am_V} (hd : decode bb pc = .ok (.dup2, 1)) (h1 : am_cat v = 1) (h2 : am_cat u = 1) (h : am_Go lay d c nL rt bb (pc + 1) (lv) (v :: u :: v :: u :: st) (σ) Q) : am_Go lay d c nL rt bb (pc) (lv) (v :: u :: st) (σ) Q := by
  obtain ⟨r0, σ1, hq, n, hn⟩ := h
  refine ⟨r0, σ1, hq, n + 1, ?_⟩
  unfold am_gi
  rw [hd]
  exact ⟨rfl, Or.inr ⟨h1, h2, hn⟩⟩
theorem g_icmp_eq {x y : Int} {off : Int} {tgt : Nat} (hd : decode bb pc = .ok (.if_icmp .eq off, 3)) (ht : (pc : Int) + off = (tgt : Int)) (h1 : x = y → am_Go lay d c nL rt bb (tgt) (lv) (st) (σ) Q) (h2 : ¬ (x = y) → am_Go lay d c nL rt bb (pc + 3) (lv) (st) (σ) Q) : am_Go lay d c nL rt bb (pc) (lv) (vI y :: vI x :: st) (σ) Q := by
  have e0 : 0 ≤ (pc : Int) + off := by omega
  have e1 : ((pc : Int) + off).toNat = tgt := by omega
  by_cases q : x = y
  · obtain ⟨r0, σ1, hq, n, hn⟩ := h1 q
    refine ⟨r0, σ1, hq, n + 1, ?_⟩
    unfold am_gi
    rw [hd]
    refine ⟨rfl, e0, ?_⟩
    show ite _ _ _
    rw [if_pos q, e1]
    exact hn
  · obtain ⟨r0, σ1, hq, n, hn⟩ := h2 q
    refine ⟨r0, σ1, hq, n + 1, ?_⟩
    unfold am_gi
    rw [hd]
    refine ⟨rfl, e0, ?_⟩
    show ite _ _ _
    rw [if_neg q]
    exact hn
theorem g_if_eq {x : Int} {off : Int} {tgt : Nat} (hd : decode bb pc = .ok (.ifCond .eq off, 3)) (ht : (pc : Int) + off = (tgt : Int)) (h1 : x = 0 → am_Go lay d c nL rt bb (tgt) (lv) (st) (σ) Q) (h2 : ¬ (x = 0) → am_Go lay d c nL rt bb (pc + 3) (lv) (st) (σ) Q) : am_Go lay d c nL rt bb (pc) (lv) (vI x :: st) (σ) Q := by
  have e0 : 0 ≤ (pc : Int) + off := by omega
  have e1 : ((pc : Int) + off).toNat = tgt := by omega
  by_cases q : x = 0
  · obtain ⟨r0, σ1, hq, n, hn⟩ := h1 q
    refine ⟨r0, σ1, hq, n + 1, ?_⟩
    unfold am_gi
    rw [hd]
    refine ⟨rfl, e0, ?_⟩
    show ite _ _ _
    rw [if_pos q, e1]
    exact hn
  · obtain ⟨r0, σ1, hq, n, hn⟩ := h2 q
    refine ⟨r0, σ1, hq, n + 1, ?_⟩
    unfold am_gi
    rw [hd]
    refine ⟨rfl, e0, ?_⟩
    show ite _ _ _
    rw [if_neg q]
    exact hn
theorem g_icmp_ne {x y : Int} {off : Int} {tgt : Nat} (hd : decode bb pc = .ok (.if_icmp .ne off, 3)) (ht : (pc : Int) + off = (tgt : Int)) (h1 : ¬ x = y → am_Go lay d c nL rt bb (tgt) (lv) (st) (σ) Q) (h2 : ¬ (¬ x = y) → am_Go lay d c nL rt bb (pc + 3) (lv) (st) (σ) Q) : am_Go lay d c nL rt bb (pc) (lv) (vI y :: vI x :: st) (σ) Q := by
  have e0 : 0 ≤ (pc : Int) + off := by omega
  have e1 : ((pc : Int) + off).toNat = tgt := by omega
  by_cases q : ¬ x = y
  · obtain ⟨r0, σ1, hq, n, hn⟩ := h1 q
    refine ⟨r0, σ1, hq, n + 1, ?_⟩
    unfold am_gi
    rw [hd]
    refine ⟨rfl, e0, ?_⟩
    show ite _ _ _
    rw [if_pos q, e1]
    exact hn
  · obtain ⟨r0, σ1, hq, n, hn⟩ := h2 q
    refine ⟨r0, σ1, hq, n + 1, ?_⟩
    unfold am_gi
    rw [hd]
    refine ⟨rfl, e0, ?_⟩
    show ite _ _ _
    rw [if_neg q]
    exact hn
theorem g_if_ne {x : Int} {off : Int} {tgt : Nat} (hd : decode bb pc = .ok (.ifCond .ne off, 3)) (ht : (pc : Int) + off = (tgt : Int)) (h1 : ¬ x = 0 → am_Go lay d c nL rt bb (tgt) (lv) (st) (σ) Q) (h2 : ¬ (¬ x = 0) → am_Go lay d c nL rt bb (pc + 3) (lv) (st) (σ) Q) : am_Go lay d c nL rt bb (pc) (lv) (vI x :: st) (σ) Q := by
  have e0 : 0 ≤ (pc : Int) + off := by omega
  have e1 : ((pc : Int) + off).toNat = tgt := by omega
  by_cases q : ¬ x = 0
  · obtain ⟨r0, σ1, hq, n, hn⟩ := h1 q
    refine ⟨r0, σ1, hq, n + 1, ?_⟩
    unfold am_gi
    rw [hd]
    refine ⟨rfl, e0, ?_⟩
    show ite _ _ _
    rw [if_pos q, e1]
    exact hn
  · obtain ⟨r0, σ1, hq, n, hn⟩ := h2 q
    refine ⟨r0, σ1, hq, n + 1, ?_⟩
    unfold am_gi
    rw [hd]
    refine ⟨rfl, e0, ?_⟩
    show ite _ _ _
    rw [if_neg q]
    exact hn
theorem g_icmp_lt {x y : Int} {off : Int} {tgt : Nat} (hd : decode bb pc = .ok (.if_icmp .lt off, 3)) (ht : (pc : Int) + off = (tgt : Int)) (h1 : x < y → am_Go lay d c nL rt bb (tgt) (lv) (st) (σ) Q) (h2 : ¬ (x < y) → am_Go lay d c nL rt bb (pc + 3) (lv) (st) (σ) Q) : am_Go lay d c nL rt bb (pc) (lv) (vI y :: vI x :: st) (σ) Q := by
  have e0 : 0 ≤ (pc : Int) + off := by omega
  have e1 : ((pc : Int) + off).toNat = tgt := by omega
  by_cases q : x < y
  · obtain ⟨r0, σ1, hq, n, hn⟩ := h1 q
    refine ⟨r0, σ1, hq, n + 1, ?_⟩
    unfold am_gi
    rw [hd]
    refine ⟨rfl, e0, ?_⟩
    show ite _ _ _
    rw [if_pos q, e1]
    exact hn
  · obtain ⟨r0, σ1, hq, n, hn⟩ := h2 q
    refine ⟨r0, σ1, hq, n + 1, ?_⟩
    unfold am_gi
    rw [hd]
    refine ⟨rfl, e0, ?_⟩
    show ite _ _ _
    rw [if_neg q]
    exact hn
theorem g_if_lt {x : Int} {off : Int} {tgt : Nat} (hd : decode bb pc = .ok (.ifCond .lt off, 3)) (ht : (pc : Int) + off = (tgt : Int)) (h1 : x < 0 → am_Go lay d c nL rt bb (tgt) (lv) (st) (σ) Q) (h2 : ¬ (x < 0) → am_Go lay d c nL rt bb (pc + 3) (lv) (st) (σ) Q) : am_Go lay d c nL rt bb (pc) (lv) (vI x :: st) (σ) Q := by
  have e0 : 0 ≤ (pc : Int) + off := by omega
  have e1 : ((pc : Int) + off).toNat = tgt := by omega
  by_cases q : x < 0
  · obtain ⟨r0, σ1, hq, n, hn⟩ := h1 q
    refine ⟨r0, σ1, hq, n + 1, ?_⟩
    unfold am_gi
    rw [hd]
    refine ⟨rfl, e0, ?_⟩
    show ite _ _ _
    rw [if_pos q, e1]
    exact hn
  · obtain ⟨r0, σ1, hq, n, hn⟩ := h2 q
    refine ⟨r0, σ1, hq, n + 1, ?_⟩
    unfold am_gi
    rw [hd]
    refine ⟨rfl, e0, ?_⟩
    show ite _ _ _
    rw [if_neg q]
    exact hn
theorem g_icmp_ge {x y : Int} {off : Int} {tgt : Nat} (hd : decode bb pc = .ok (.if_icmp .ge off, 3)) (ht : (pc : Int) + off = (tgt : Int)) (h1 : y ≤ x → am_Go lay d c nL rt bb (tgt) (lv) (st) (σ) Q) (h2 : ¬ (y ≤ x) → am_Go lay d c nL rt bb (pc + 3) (lv) (st) (σ) Q) : am_Go lay d c nL rt bb (pc) (lv) (vI y :: vI x :: st) (σ) Q := by
  have e0 : 0 ≤ (pc : Int) + off := by omega
  have e1 : ((pc : Int) + off).toNat = tgt := by omega
  by_cases q : y ≤ x
  · obtain ⟨r0, σ1, hq, n, hn⟩ := h1 q
    refine ⟨r0, σ1, hq, n + 1, ?_⟩
    unfold am_gi
    rw [hd]
    refine ⟨rfl, e0, ?_⟩
    show ite _ _ _
    rw [if_pos q, e1]
    exact hn
  · obtain ⟨r0, σ1, hq, n, hn⟩ := h2 q
    refine ⟨r0, σ1, hq, n + 1, ?_⟩
    unfold am_gi
    rw [hd]
    refine ⟨rfl, e0, ?_⟩
    show ite _ _ _
    rw [if_neg q]
    exact hn
theorem g_if_ge {x : Int} {off : Int} {tgt : Nat} (hd : decode bb pc = .ok (.ifCond .ge off, 3)) (ht : (pc : Int) + off = (tgt : Int)) (h1 : 0 ≤ x → am_Go lay d c nL rt bb (tgt) (lv) (st) (σ) Q) (h2 : ¬ (0 ≤ x) → am_Go lay d c nL rt bb (pc + 3) (lv) (st) (σ) Q) : am_Go lay d c nL rt bb (pc) (lv) (vI x :: st) (σ) Q := by
  have e0 : 0 ≤ (pc : Int) + off := by omega
  have e1 : ((pc : Int) + off).toNat = tgt := by omega
  by_cases q : 0 ≤ x
  · obtain ⟨r0, σ1, hq, n, hn⟩ := h1 q
    refine ⟨r0, σ1, hq, n + 1, ?_⟩
    unfold am_gi
    rw [hd]
    refine ⟨rfl, e0, ?_⟩
    show ite _ _ _
    rw [if_pos q, e1]
    exact hn
  · obtain ⟨r0, σ1, hq, n, hn⟩ := h2 q
    refine ⟨r0, σ1, hq, n + 1, ?_⟩
    unfold am_gi
    rw [hd]
    refine ⟨rfl, e0, ?_⟩
    show ite _ _ _
    rw [if_neg q]
    exact hn
theorem g_icmp_gt {x y : Int} {off : Int} {tgt : Nat} (hd : decode bb pc = .ok (.if_icmp .gt off, 3)) (ht : (pc : Int) + off = (tgt : Int)) (h1 : y < x → am_Go lay d c nL rt bb (tgt) (lv) (st) (σ) Q) (h2 : ¬ (y < x) → am_Go lay d c nL rt bb (pc + 3) (lv) (st) (σ) Q) : am_Go lay d c nL rt bb (pc) (lv) (vI y :: vI x :: st) (σ) Q := by
  have e0 : 0 ≤ (pc : Int) + off := by omega
  have e1 : ((pc : Int) + off).toNat = tgt := by omega
  by_cases q : y < x
  · obtain ⟨r0, σ1, hq, n, hn⟩ := h1 q
    refine ⟨r0, σ1, hq, n + 1, ?_⟩
    unfold am_gi
    rw [hd]
    refine ⟨rfl, e0, ?_⟩
    show ite _ _ _
    rw [if_pos q, e1]
    exact hn
  · obtain ⟨r0, σ1, hq, n, hn⟩ := h2 q
    refine ⟨r0, σ1, hq, n + 1, ?_⟩
    unfold am_gi
    rw [hd]
    refine ⟨rfl, e0, ?_⟩
    show ite _ _ _
    rw [if_neg q]
    exact hn
theorem g_if_gt {x : Int} {off : Int} {tgt : Nat} (hd : decode bb pc = .ok (.ifCond .gt off, 3)) (ht : (pc : Int) + off = (tgt : Int)) (h1 : 0 < x → am_Go lay d c nL rt bb (tgt) (lv) (st) (σ) Q) (h2 : ¬ (0 < x) → am_Go lay d c nL rt bb (pc + 3) (lv) (st) (σ) Q) : am_Go lay d c nL rt bb (pc) (lv) (vI x :: st) (σ) Q := by
  have e0 : 0 ≤ (pc : Int) + off := by omega
  have e1 : ((pc : Int) + off).toNat = tgt := by omega
  by_cases q : 0 < x
  · obtain ⟨r0, σ1, hq, n, hn⟩ := h1 q
    refine ⟨r0, σ1, hq, n + 1, ?_⟩
    unfold am_gi
    rw [hd]
    refine ⟨rfl, e0, ?_⟩
    show ite _ _ _
    rw [if_pos q, e1]
    exact hn
  · obtain ⟨r0, σ1, hq, n, hn⟩ := h2 q
    refine ⟨r0, σ1, hq, n + 1, ?_⟩
    unfold am_gi
    rw [hd]
    refine ⟨rfl, e0, ?_⟩
    show ite _ _ _
    rw [if_neg q]
    exact hn
theorem g_icmp_le {x y : Int} {off : Int} {tgt : Nat} (hd : decode bb pc = .ok (.if_icmp .le off, 3)) (ht : (pc : Int) + off = (tgt : Int)) (h1 : x ≤ y → am_Go lay d c nL rt bb (tgt) (lv) (st) (σ) Q) (h2 : ¬ (x ≤ y) → am_Go lay d c nL rt bb (pc + 3) (lv) (st) (σ) Q) : am_Go lay d c nL rt bb (pc) (lv) (vI y :: vI x :: st) (σ) Q := by
  have e0 : 0 ≤ (pc : Int) + off := by omega
  have e1 : ((pc : Int) + off).toNat = tgt := by omega
  by_cases q : x ≤ y
  · obtain ⟨r0, σ1, hq, n, hn⟩ := h1 q
    refine ⟨r0, σ1, hq, n + 1, ?_⟩
    unfold am_gi
    rw [hd]
    refine ⟨rfl, e0, ?_⟩
    show ite _ _ _
    rw [if_pos q, e1]
    exact hn
  · obtain ⟨r0, σ1, hq, n, hn⟩ := h2 q
    refine ⟨r0, σ1, hq, n + 1, ?_⟩
    unfold am_gi
    rw [hd]
    refine ⟨rfl, e0, ?_⟩
    show ite _ _ _
    rw [if_neg q]
    exact hn
theorem g_if_le {x : Int} {off : Int} {tgt : Nat} (hd : decode bb pc = .ok (.ifCond .le off, 3)) (ht : (pc : Int) + off = (tgt : Int)) (h1 : x ≤ 0 → am_Go lay d c nL rt bb (tgt) (lv) (st) (σ) Q) (h2 : ¬ (x ≤ 0) → am_Go lay d c nL rt bb (pc + 3) (lv) (st) (σ) Q) : am_Go lay d c nL rt bb (pc) (lv) (vI x :: st) (σ) Q := by
  have e0 : 0 ≤ (pc : Int) + off := by omega
  have e1 : ((pc : Int) + off).toNat = tgt := by omega
  by_cases q : x ≤ 0
  · obtain ⟨r0, σ1, hq, n, hn⟩ := h1 q
    refine ⟨r0, σ1, hq, n + 1, ?_⟩
    unfold am_gi
    rw [hd]
    refine ⟨rfl, e0, ?_⟩
    show ite _ _ _
    rw [if_pos q, e1]
    exact hn
  · obtain ⟨r0, σ1, hq, n, hn⟩ := h2 q
    refine ⟨r0, σ1, hq, n + 1, ?_⟩
    unfold am_gi
    rw [hd]
    refine ⟨rfl, e0, ?_⟩
    show ite _ _ _
    rw [if_neg q]
    exact hn
theorem g_ifnull {x : Option Nat} {off : Int} {tgt : Nat} (hd : decode bb pc = .ok (.ifnull off, 3)) (ht : (pc : Int) + off = (tgt : Int)) (h1 : x = none → am_Go lay d c nL rt bb (tgt) (lv) (st) (σ) Q) (h2 : ¬ (x = none) → am_Go lay d c nL rt bb (pc + 3) (lv) (st) (σ) Q) : am_Go lay d c nL rt bb (pc) (lv) (vR x :: st) (σ) Q := by
  have e0 : 0 ≤ (pc : Int) + off := by omega
  have e1 : ((pc : Int) + off).toNat = tgt := by omega
  by_cases q : x = none
  · obtain ⟨r0, σ1, hq, n, hn⟩ := h1 q
    refine ⟨r0, σ1, hq, n + 1, ?_⟩
    unfold am_gi
    rw [hd]
    refine ⟨rfl, e0, ?_⟩
    show ite _ _ _
    rw [if_pos q, e1]
    exact hn
  · obtain ⟨r0, σ1, hq, n, hn⟩ := h2 q
    refine ⟨r0, σ1, hq, n + 1, ?_⟩
    unfold am_gi
    rw [hd]
    refine ⟨rfl, e0, ?_⟩
    show ite _ _ _
    rw [if_neg q]
    exact hn
theorem g_ifnonnull {x : Option Nat} {off : Int} {tgt : Nat} (hd : decode bb pc = .ok (.ifnonnull off, 3)) (ht : (pc : Int) + off = (tgt : Int)) (h1 : x = none → am_Go lay d c nL rt bb (pc + 3) (lv) (st) (σ) Q) (h2 : ¬ (x = none) → am_Go lay d c nL rt bb (tgt) (lv) (st) (σ) Q) : am_Go lay d c nL rt bb (pc) (lv) (vR x :: st) (σ) Q := by
  have e0 : 0 ≤ (pc : Int) + off := by omega
  have e1 : ((pc : Int) + off).toNat = tgt := by omega
  by_cases q : x = none
  · obtain ⟨r0, σ1, hq, n, hn⟩ := h1 q
    refine ⟨r0, σ1, hq, n + 1, ?_⟩
    unfold am_gi
    rw [hd]
    refine ⟨rfl, e0, ?_⟩
    show ite _ _ _
    rw [if_pos q]
    exact hn
  · obtain ⟨r0, σ1, hq, n, hn⟩ := h2 q
    refine ⟨r0, σ1, hq, n + 1, ?_⟩
    unfold am_gi
    rw [hd]
    refine ⟨rfl, e0, ?_⟩
    show ite _ _ _
    rw [if_neg q, e1]
    exact hn
theorem g_goto {off : Int} {tgt : Nat} (hd : decode bb pc = .ok (.goto off, 3)) (ht : (pc : Int) + off = (tgt : Int)) (h : am_Go lay d c nL rt bb (tgt) (lv) (st) (σ) Q) : am_Go lay d c nL rt bb (pc) (lv) (st) (σ) Q := by
  obtain ⟨r0, σ1, hq, n, hn⟩ := h
  refine ⟨r0, σ1, hq, n + 1, ?_⟩
  unfold am_gi
  rw [hd]
  refine ⟨rfl, by omega, ?_⟩
  rw [show ((pc : Int) + off).toNat = tgt by omega]
  exact hn
theorem g_table {x df lo hi : Int} {offs : Array Int} {len : Nat} (hd : decode bb pc = .ok (.tableswitch df lo hi offs, len)) (h1 : (x < lo ∨ hi < x) → ∃ tgt : Nat, (pc : Int) + df = (tgt : Int) ∧ am_Go lay d c nL rt bb (tgt) (lv) (st) (σ) Q) (h2 : lo ≤ x → x ≤ hi → ∃ (off : Int) (tgt : Nat), offs[(x - lo).toNat]? = some off ∧ (pc : Int) + off = (tgt : Int) ∧ am_Go lay d c nL rt bb (tgt) (lv) (st) (σ) Q) : am_Go lay d c nL rt bb (pc) (lv) (vI x :: st) (σ) Q := by
  by_cases q : x < lo ∨ hi < x
  · obtain ⟨tgt, ht, r0, σ1, hq, n, hn⟩ := h1 q
    refine ⟨r0, σ1, hq, n + 1, ?_⟩
    unfold am_gi
    rw [hd]
    show ite _ _ _
    rw [if_pos q]
    refine ⟨by omega, ?_⟩
    rw [show ((pc : Int) + df).toNat = tgt by omega]
    exact hn
  · obtain ⟨off, tgt, ho, ht, r0, σ1, hq, n, hn⟩ := h2 (by omega) (by omega)
    refine ⟨r0, σ1, hq, n + 1, ?_⟩
    unfold am_gi
    rw [hd]
    show ite _ _ _
    rw [if_neg q]
    refine ⟨off, ho, by omega, ?_⟩
    rw [show ((pc : Int) + off).toNat = tgt by omega]
    exact hn
theorem g_lookup {x df : Int} {ps : Array (Int × Int)} {len : Nat} (hd : decode bb pc = .ok (.lookupswitch df ps, len)) (h0 : (ps.toList.zip (ps.toList.drop 1)).all (fun (a, next) => a.1 < next.1) = true) (h : ∃ (off : Int) (tgt : Nat), Op.lookupswitch.offset ps.toList df x = off ∧ (pc : Int) + off = (tgt : Int) ∧ am_Go lay d c nL rt bb (tgt) (lv) (st) (σ) Q) : am_Go lay d c nL rt bb (pc) (lv) (vI x :: st) (σ) Q := by
  obtain ⟨off, tgt, ho, ht, r0, σ1, hq, n, hn⟩ := h
  subst ho
  refine ⟨r0, σ1, hq, n + 1, ?_⟩
  unfold am_gi
  rw [hd]
  refine ⟨h0, by omega, ?_⟩
  rw [show ((pc : Int) + Op.lookupswitch.offset ps.toList df x).toNat = tgt by omega]
  exact hn
theorem g_ldc {i : Nat} {v : Int} (hd : decode bb pc = .ok (.ldc i, 2)) (h1 : am_T0.2.2.1 c i = some v) (h2 : rI v) (h : am_Go lay d c nL rt bb (pc + 2) (lv) (vI v :: st) (σ) Q) : am_Go lay d c nL rt bb (pc) (lv) (st) (σ) Q := by
  obtain ⟨r0, σ1, hq, n, hn⟩ := h
  refine ⟨r0, σ1, hq, n + 1, ?_⟩
  unfold am_gi
  rw [hd]
  exact ⟨rfl, v, h1, h2, hn⟩
theorem g_ldcw {i : Nat} {v : Int} (hd : decode bb pc = .ok (.ldc_w i, 3)) (h1 : am_T0.2.2.1 c i = some v) (h2 : rI v) (h : am_Go lay d c nL rt bb (pc + 3) (lv) (vI v :: st) (σ) Q) : am_Go lay d c nL rt bb (pc) (lv) (st) (σ) Q := by
  obtain ⟨r0, σ1, hq, n, hn⟩ := h
  refine ⟨r0, σ1, hq, n + 1, ?_⟩
  unfold am_gi
  rw [hd]
  exact ⟨rfl, v, h1, h2, hn⟩
theorem g_ldc2 {i : Nat} {v : Int} (hd : decode bb pc = .ok (.ldc2_w i, 3)) (h1 : am_T0.2.2.2.1 c i = some v) (h2 : rL v) (h : am_Go lay d c nL rt bb (pc + 3) (lv) (vL v :: st) (σ) Q) : am_Go lay d c nL rt bb (pc) (lv) (st) (σ) Q := by
  obtain ⟨r0, σ1, hq, n, hn⟩ := h
  refine ⟨r0, σ1, hq, n + 1, ?_⟩
  unfold am_gi
  rw [hd]
  exact ⟨rfl, v, h1, h2, hn⟩
theorem g_getI {i o ci k : Nat} (hd : decode bb pc = .ok (.getfield i, 3)) (h1 : am_T0.1 c i = some (ci, k)) (h2 : lay o = .inl ci) (h3 : am_fty ci k = 0) (h : am_Go lay d c nL rt bb (pc + 3) (lv) (vI (hI σ o k) :: st) (σ) Q) : am_Go lay d c nL rt bb (pc) (lv) (vR (some o) :: st) (σ) Q := by
  obtain ⟨r0, σ1, hq, n, hn⟩ := h
  refine ⟨r0, σ1, hq, n + 1, ?_⟩
  unfold am_gi
  rw [hd]
  refine ⟨rfl, ci, k, h1, o, rfl, h2, ?_⟩
  rw [h3]
  exact hn
theorem g_getZ {i o ci k : Nat} (hd : decode bb pc = .ok (.getfield i, 3)) (h1 : am_T0.1 c i = some (ci, k)) (h2 : lay o = .inl ci) (h3 : am_fty ci k = 1) (h : am_Go lay d c nL rt bb (pc + 3) (lv) (vI (hI σ o k) :: st) (σ) Q) : am_Go lay d c nL rt bb (pc) (lv) (vR (some o) :: st) (σ) Q := by
  obtain ⟨r0, σ1, hq, n, hn⟩ := h
  refine ⟨r0, σ1, hq, n + 1, ?_⟩
  unfold am_gi
  rw [hd]
  refine ⟨rfl, ci, k, h1, o, rfl, h2, ?_⟩
  rw [h3]
  exact hn
theorem g_getL {i o ci k : Nat} (hd : decode bb pc = .ok (.getfield i, 3)) (h1 : am_T0.1 c i = some (ci, k)) (h2 : lay o = .inl ci) (h3 : am_fty ci k = 2) (h : am_Go lay d c nL rt bb (pc + 3) (lv) (vL (hL σ o k) :: st) (σ) Q) : am_Go lay d c nL rt bb (pc) (lv) (vR (some o) :: st) (σ) Q := by
  obtain ⟨r0, σ1, hq, n, hn⟩ := h
  refine ⟨r0, σ1, hq, n + 1, ?_⟩
  unfold am_gi
  rw [hd]
  refine ⟨rfl, ci, k, h1, o, rfl, h2, ?_⟩
  rw [h3]
  exact hn
theorem g_getR {i o ci k : Nat} (hd : decode bb pc = .ok (.getfield i, 3)) (h1 : am_T0.1 c i = some (ci, k)) (h2 : lay o = .inl ci) (h3 : am_fty ci k = 3) (h : am_Go lay d c nL rt bb (pc + 3) (lv) (vR (hR σ o k) :: st) (σ) Q) : am_Go lay d c nL rt bb (pc) (lv) (vR (some o) :: st) (σ) Q := by
  obtain ⟨r0, σ1, hq, n, hn⟩ := h
  refine ⟨r0, σ1, hq, n + 1, ?_⟩
  unfold am_gi
  rw [hd]
  refine ⟨rfl, ci, k, h1, o, rfl, h2, ?_⟩
  rw [h3]
  exact hn
theorem g_putI {i o ci k : Nat} {x : Int} (hd : decode bb pc = .ok (.putfield i, 3)) (h1 : am_T0.1 c i = some (ci, k)) (h2 : lay o = .inl ci) (h3 : am_fty ci k = 0) (h4 : am_ffin ci k = false) (h : am_Go lay d c nL rt bb (pc + 3) (lv) (st) (uI σ o k x) Q) : am_Go lay d c nL rt bb (pc) (lv) (vI x :: vR (some o) :: st) (σ) Q := by
  obtain ⟨r0, σ1, hq, n, hn⟩ := h
  refine ⟨r0, σ1, hq, n + 1, ?_⟩
  unfold am_gi
  rw [hd]
  refine ⟨rfl, ci, k, h1, h4, h2, ?_⟩
  rw [h3]
  exact hn
theorem g_putZ {i o ci k : Nat} {x : Int} (hd : decode bb pc = .ok (.putfield i, 3)) (h1 : am_T0.1 c i = some (ci, k)) (h2 : lay o = .inl ci) (h3 : am_fty ci k = 1) (h4 : am_ffin ci k = false) (h5 : x = 0 ∨ x = 1) (h : am_Go lay d c nL rt bb (pc + 3) (lv) (st) (uI σ o k x) Q) : am_Go lay d c nL rt bb (pc) (lv) (vI x :: vR (some o) :: st) (σ) Q := by
  obtain ⟨r0, σ1, hq, n, hn⟩ := h
  refine ⟨r0, σ1, hq, n + 1, ?_⟩
  unfold am_gi
  rw [hd]
  refine ⟨rfl, ci, k, h1, h4, h2, ?_⟩
  rw [h3]
  exact ⟨h5, hn⟩
theorem g_putL {i o ci k : Nat} {x : Int} (hd : decode bb pc = .ok (.putfield i, 3)) (h1 : am_T0.1 c i = some (ci, k)) (h2 : lay o = .inl ci) (h3 : am_fty ci k = 2) (h4 : am_ffin ci k = false) (h : am_Go lay d c nL rt bb (pc + 3) (lv) (st) (uL σ o k x) Q) : am_Go lay d c nL rt bb (pc) (lv) (vL x :: vR (some o) :: st) (σ) Q := by
  obtain ⟨r0, σ1, hq, n, hn⟩ := h
  refine ⟨r0, σ1, hq, n + 1, ?_⟩
  unfold am_gi
  rw [hd]
  refine ⟨rfl, ci, k, h1, h4, h2, ?_⟩
  rw [h3]
  exact hn
theorem g_putR {i o ci k : Nat} {x : Option Nat} (hd : decode bb pc = .ok (.putfield i, 3)) (h1 : am_T0.1 c i = some (ci, k)) (h2 : lay o = .inl ci) (h3 : am_fty ci k = 3) (h4 : am_ffin ci k = false) (h : am_Go lay d c nL rt bb (pc + 3) (lv) (st) (uR σ o k x) Q) : am_Go lay d c nL rt bb (pc) (lv) (vR x :: vR (some o) :: st) (σ) Q := by
  obtain ⟨r0, σ1, hq, n, hn⟩ := h
  refine ⟨r0, σ1, hq, n + 1, ?_⟩
  unfold am_gi
  rw [hd]
  refine ⟨rfl, ci, k, h1, h4, h2, ?_⟩
  rw [h3]
  exact hn
theorem g_iald {o N : Nat} {i : Int} (hd : decode bb pc = .ok (.iaload, 1)) (h1 : lay o = .inr (0, N)) (h2 : 0 ≤ i ∧ i < (N : Int)) (h : am_Go lay d c nL rt bb (pc + 1) (lv) (vI (hI σ o i.toNat) :: st) (σ) Q) : am_Go lay d c nL rt bb (pc) (lv) (vI i :: vR (some o) :: st) (σ) Q := by
  obtain ⟨r0, σ1, hq, n, hn⟩ := h
  refine ⟨r0, σ1, hq, n + 1, ?_⟩
  unfold am_gi
  rw [hd]
  exact ⟨rfl, ⟨N, h1, h2.1, h2.2, hn⟩⟩
theorem g_bald {o N : Nat} {i : Int} (hd : decode bb pc = .ok (.baload, 1)) (h1 : lay o = .inr (1, N)) (h2 : 0 ≤ i ∧ i < (N : Int)) (h : am_Go lay d c nL rt bb (pc + 1) (lv) (vI (hI σ o i.toNat) :: st) (σ) Q) : am_Go lay d c nL rt bb (pc) (lv) (vI i :: vR (some o) :: st) (σ) Q := by
  obtain ⟨r0, σ1, hq, n, hn⟩ := h
  refine ⟨r0, σ1, hq, n + 1, ?_⟩
  unfold am_gi
  rw [hd]
  exact ⟨rfl, Or.inl (⟨N, h1, h2.1, h2.2, hn⟩)⟩
theorem g_zald {o N : Nat} {i : Int} (hd : decode bb pc = .ok (.baload, 1)) (h1 : lay o = .inr (2, N)) (h2 : 0 ≤ i ∧ i < (N : Int)) (h : am_Go lay d c nL rt bb (pc + 1) (lv) (vI (hI σ o i.toNat) :: st) (σ) Q) : am_Go lay d c nL rt bb (pc) (lv) (vI i :: vR (some o) :: st) (σ) Q := by
  obtain ⟨r0, σ1, hq, n, hn⟩ := h
  refine ⟨r0, σ1, hq, n + 1, ?_⟩
  unfold am_gi
  rw [hd]
  exact ⟨rfl, Or.inr (⟨N, h1, h2.1, h2.2, hn⟩)⟩
theorem g_lald {o N : Nat} {i : Int} (hd : decode bb pc = .ok (.laload, 1)) (h1 : lay o = .inr (3, N)) (h2 : 0 ≤ i ∧ i < (N : Int)) (h : am_Go lay d c nL rt bb (pc + 1) (lv) (vL (hL σ o i.toNat) :: st) (σ) Q) : am_Go lay d c nL rt bb (pc) (lv) (vI i :: vR (some o) :: st) (σ) Q := by
  obtain ⟨r0, σ1, hq, n, hn⟩ := h
  refine ⟨r0, σ1, hq, n + 1, ?_⟩
  unfold am_gi
  rw [hd]
  exact ⟨rfl, ⟨N, h1, h2.1, h2.2, hn⟩⟩
theorem g_aaldW {o N : Nat} {i : Int} (hd : decode bb pc = .ok (.aaload, 1)) (h1 : lay o = .inr (4, N)) (h2 : 0 ≤ i ∧ i < (N : Int)) (h : am_Go lay d c nL rt bb (pc + 1) (lv) (vR (hR σ o i.toNat) :: st) (σ) Q) : am_Go lay d c nL rt bb (pc) (lv) (vI i :: vR (some o) :: st) (σ) Q := by
  obtain ⟨r0, σ1, hq, n, hn⟩ := h
  refine ⟨r0, σ1, hq, n + 1, ?_⟩
  unfold am_gi
  rw [hd]
  exact ⟨rfl, Or.inl (⟨N, h1, h2.1, h2.2, hn⟩)⟩
theorem g_aaldS {o N : Nat} {i : Int} (hd : decode bb pc = .ok (.aaload, 1)) (h1 : lay o = .inr (5, N)) (h2 : 0 ≤ i ∧ i < (N : Int)) (h : am_Go lay d c nL rt bb (pc + 1) (lv) (vR (hR σ o i.toNat) :: st) (σ) Q) : am_Go lay d c nL rt bb (pc) (lv) (vI i :: vR (some o) :: st) (σ) Q := by
  obtain ⟨r0, σ1, hq, n, hn⟩ := h
  refine ⟨r0, σ1, hq, n + 1, ?_⟩
  unfold am_gi
  rw [hd]
  exact ⟨rfl, Or.inr (⟨N, h1, h2.1, h2.2, hn⟩)⟩
theorem g_iast {o N : Nat} {i x : Int} (hd : decode bb pc = .ok (.iastore, 1)) (h1 : lay o = .inr (0, N)) (h2 : 0 ≤ i ∧ i < (N : Int)) (h : am_Go lay d c nL rt bb (pc + 1) (lv) (st) (uI σ o i.toNat x) Q) : am_Go lay d c nL rt bb (pc) (lv) (vI x :: vI i :: vR (some o) :: st) (σ) Q := by
  obtain ⟨r0, σ1, hq, n, hn⟩ := h
  refine ⟨r0, σ1, hq, n + 1, ?_⟩
  unfold am_gi
  rw [hd]
  exact ⟨rfl, ⟨N, h1, h2.1, h2.2, hn⟩⟩
theorem g_bast {o N : Nat} {i x : Int} (hd : decode bb pc = .ok (.bastore, 1)) (h1 : lay o = .inr (1, N)) (h2 : 0 ≤ i ∧ i < (N : Int)) (h5 : -128 ≤ x ∧ x ≤ 127) (h : am_Go lay d c nL rt bb (pc + 1) (lv) (st) (uI σ o i.toNat x) Q) : am_Go lay d c nL rt bb (pc) (lv) (vI x :: vI i :: vR (some o) :: st) (σ) Q := by
  obtain ⟨r0, σ1, hq, n, hn⟩ := h
  refine ⟨r0, σ1, hq, n + 1, ?_⟩
  unfold am_gi
  rw [hd]
  exact ⟨rfl, Or.inl (⟨N, h1, h2.1, h2.2, h5, hn⟩)⟩
theorem g_zast {o N : Nat} {i x : Int} (hd : decode bb pc = .ok (.bastore, 1)) (h1 : lay o = .inr (2, N)) (h2 : 0 ≤ i ∧ i < (N : Int)) (h5 : x = 0 ∨ x = 1) (h : am_Go lay d c nL rt bb (pc + 1) (lv) (st) (uI σ o i.toNat x) Q) : am_Go lay d c nL rt bb (pc) (lv) (vI x :: vI i :: vR (some o) :: st) (σ) Q := by
  obtain ⟨r0, σ1, hq, n, hn⟩ := h
  refine ⟨r0, σ1, hq, n + 1, ?_⟩
  unfold am_gi
  rw [hd]
  exact ⟨rfl, Or.inr (⟨N, h1, h2.1, h2.2, h5, hn⟩)⟩
theorem g_last {o N : Nat} {i x : Int} (hd : decode bb pc = .ok (.lastore, 1)) (h1 : lay o = .inr (3, N)) (h2 : 0 ≤ i ∧ i < (N : Int)) (h : am_Go lay d c nL rt bb (pc + 1) (lv) (st) (uL σ o i.toNat x) Q) : am_Go lay d c nL rt bb (pc) (lv) (vL x :: vI i :: vR (some o) :: st) (σ) Q := by
  obtain ⟨r0, σ1, hq, n, hn⟩ := h
  refine ⟨r0, σ1, hq, n + 1, ?_⟩
  unfold am_gi
  rw [hd]
  exact ⟨rfl, ⟨N, h1, h2.1, h2.2, hn⟩⟩
theorem g_alen {o k N : Nat} (hd : decode bb pc = .ok (.arraylength, 1)) (h1 : lay o = .inr (k, N)) (h2 : k < 6 ∧ N < 2147483648) (h : am_Go lay d c nL rt bb (pc + 1) (lv) (vI (N : Int) :: st) (σ) Q) : am_Go lay d c nL rt bb (pc) (lv) (vR (some o) :: st) (σ) Q := by
  obtain ⟨r0, σ1, hq, n, hn⟩ := h
  refine ⟨r0, σ1, hq, n + 1, ?_⟩
  unfold am_gi
  rw [hd]
  exact ⟨rfl, o, k, N, rfl, h1, h2.1, h2.2, hn⟩
/-- calls: the arguments stand on the stack, the last one on top -/
theorem g_callv {i mi o np c1 n1 rt1 rc : Nat} {b1 : ByteArray} {as rest : List am_V} {P : Option am_V → am_HS → Prop} (hd : decode bb pc = .ok (.invokevirtual i, 3)) (h1 : am_T0.2.1 c i = some mi) (hM : am_M0 mi = (c1, b1, n1, np, rt1, false, rc)) (hst : st.take np = as ∧ st.drop np = vR (some o) :: rest) (h2 : lay o = .inl rc) (h3 : am_cats rest ≤ 8) (hc : am_Do lay d mi σ (vR (some o) :: as.reverse) P) (h : ∀ r σ1, P r σ1 → am_Go lay d c nL rt bb (pc + 3) lv (r.toList ++ rest) σ1 Q) : am_Go lay d c nL rt bb (pc) (lv) (st) (σ) Q := by
  obtain ⟨r1, σ2, hp, he⟩ := hc
  obtain ⟨r0, σ1, hq, n, hn⟩ := h r1 σ2 hp
  refine ⟨r0, σ1, hq, n + 1, ?_⟩
  unfold am_gi
  rw [hd]
  refine ⟨rfl, mi, h1, by rw [hM], ?_⟩
  rw [hM]
  dsimp only
  rw [hst.2]
  refine ⟨h2, h3, r1, σ2, ?_, hn⟩
  rw [hst.1]
  exact he
theorem g_calls {i mi np c1 n1 rt1 rc : Nat} {b1 : ByteArray} {as rest : List am_V} {P : Option am_V → am_HS → Prop} (hd : decode bb pc = .ok (.invokestatic i, 3)) (h1 : am_T0.2.1 c i = some mi) (hM : am_M0 mi = (c1, b1, n1, np, rt1, true, rc)) (hst : np ≤ st.length ∧ st.take np = as ∧ st.drop np = rest) (h3 : am_cats rest ≤ 8) (hc : am_Do lay d mi σ as.reverse P) (h : ∀ r σ1, P r σ1 → am_Go lay d c nL rt bb (pc + 3) lv (r.toList ++ rest) σ1 Q) : am_Go lay d c nL rt bb (pc) (lv) (st) (σ) Q := by
  obtain ⟨r1, σ2, hp, he⟩ := hc
  obtain ⟨r0, σ1, hq, n, hn⟩ := h r1 σ2 hp
  refine ⟨r0, σ1, hq, n + 1, ?_⟩
  unfold am_gi
  rw [hd]
  refine ⟨rfl, Or.inl ⟨mi, h1, by rw [hM], ?_⟩⟩
  rw [hM]
  dsimp only
  rw [hst.2.1, hst.2.2]
  exact ⟨hst.1, h3, r1, σ2, he, hn⟩
theorem g_max {i : Nat} {x y : Int} (hd : decode bb pc = .ok (.invokestatic i, 3)) (h1 : am_T0.2.2.2.2 c i = 1) (h3 : am_cats st ≤ 8) (h : am_Go lay d c nL rt bb (pc + 3) (lv) (vI (if x < y then y else x) :: st) (σ) Q) : am_Go lay d c nL rt bb (pc) (lv) (vI y :: vI x :: st) (σ) Q := by
  obtain ⟨r0, σ1, hq, n, hn⟩ := h
  refine ⟨r0, σ1, hq, n + 1, ?_⟩
  unfold am_gi
  rw [hd]
  exact ⟨rfl, Or.inr (Or.inl ⟨h1, h3, hn⟩)⟩
theorem g_min {i : Nat} {x y : Int} (hd : decode bb pc = .ok (.invokestatic i, 3)) (h1 : am_T0.2.2.2.2 c i = 2) (h3 : am_cats st ≤ 8) (h : am_Go lay d c nL rt bb (pc + 3) (lv) (vI (if y < x then y else x) :: st) (σ) Q) : am_Go lay d c nL rt bb (pc) (lv) (vI y :: vI x :: st) (σ) Q := by
  obtain ⟨r0, σ1, hq, n, hn⟩ := h
  refine ⟨r0, σ1, hq, n + 1, ?_⟩
  unfold am_gi
  rw [hd]
  exact ⟨rfl, Or.inr (Or.inr (Or.inl ⟨h1, h3, hn⟩))⟩
theorem g_maxL {i : Nat} {x y : Int} (hd : decode bb pc = .ok (.invokestatic i, 3)) (h1 : am_T0.2.2.2.2 c i = 3) (h3 : am_cats st ≤ 8) (h : am_Go lay d c nL rt bb (pc + 3) (lv) (vL (if y < x then x else y) :: st) (σ) Q) : am_Go lay d c nL rt bb (pc) (lv) (vL y :: vL x :: st) (σ) Q := by
  obtain ⟨r0, σ1, hq, n, hn⟩ := h
  refine ⟨r0, σ1, hq, n + 1, ?_⟩
  unfold am_gi
  rw [hd]
  exact ⟨rfl, Or.inr (Or.inr (Or.inr (Or.inl ⟨h1, h3, hn⟩)))⟩
theorem g_absL {i : Nat} {x z : Int} (hd : decode bb pc = .ok (.invokestatic i, 3)) (h1 : am_T0.2.2.2.2 c i = 4) (h3 : am_cats st ≤ 8) (hz : (if 0 < x then x else -x) = z) (hr : rL z) (h : am_Go lay d c nL rt bb (pc + 3) (lv) (vL z :: st) (σ) Q) : am_Go lay d c nL rt bb (pc) (lv) (vL x :: st) (σ) Q := by
  subst hz
  obtain ⟨r0, σ1, hq, n, hn⟩ := h
  refine ⟨r0, σ1, hq, n + 1, ?_⟩
  unfold am_gi
  rw [hd]
  refine ⟨rfl, Or.inr (Or.inr (Or.inr (Or.inr ⟨h1, h3, ?_⟩)))⟩
  by_cases q : 0 < x
  · rw [if_pos q] at hn ⊢; exact hn
  · rw [if_neg q] at hn hr ⊢; rw [wL_e hr]; exact hn
theorem g_ireturn {x : Int} (hd : decode bb pc = .ok (.ireturn, 1)) (h1 : rt = 1 ∨ (rt = 2 ∧ (x = 0 ∨ x = 1))) (h : Q (some (vI x)) σ) : am_Go lay d c nL rt bb (pc) (lv) ([vI x]) (σ) Q := by
  refine ⟨_, _, h, 1, ?_⟩
  unfold am_gi
  rw [hd]
  exact ⟨rfl, rfl, h1, rfl, rfl⟩
theorem g_lreturn {x : Int} (hd : decode bb pc = .ok (.lreturn, 1)) (h1 : rt = 3) (h : Q (some (vL x)) σ) : am_Go lay d c nL rt bb (pc) (lv) ([vL x]) (σ) Q := by
  refine ⟨_, _, h, 1, ?_⟩
  unfold am_gi
  rw [hd]
  exact ⟨rfl, rfl, h1, rfl, rfl⟩
theorem g_areturn {x : Option Nat} (hd : decode bb pc = .ok (.areturn, 1)) (h1 : rt = 4) (h : Q (some (vR x)) σ) : am_Go lay d c nL rt bb (pc) (lv) ([vR x]) (σ) Q := by
  refine ⟨_, _, h, 1, ?_⟩
  unfold am_gi
  rw [hd]
  exact ⟨rfl, rfl, h1, rfl, rfl⟩
theorem g_return (hd : decode bb pc = .ok (.return_, 1)) (h1 : rt = 0) (h : Q none σ) : am_Go lay d c nL rt bb (pc) (lv) ([]) (σ) Q := by
  refine ⟨_, _, h, 1, ?_⟩
  unfold am_gi
  rw [hd]
  exact ⟨rfl, rfl, h1, rfl, rfl⟩
end ROWS
theorem hI_uI_e {σ : am_HS} {o k : Nat} {x : Int} (h : rI x) : hI (uI σ o k x) o k = x := by simp only [hI, uI, and_self, if_true]; exact wI_e h
theorem hI_uI_n {σ : am_HS} {o k a b : Nat} {x : Int} (h : ¬ (a = o ∧ b = k)) : hI (uI σ o k x) a b = hI σ a b := by simp only [hI, uI, if_neg h]
theorem hL_uI {σ : am_HS} {o k a b : Nat} {x : Int} : hL (uI σ o k x) a b = hL σ a b := rfl
theorem hR_uI {σ : am_HS} {o k a b : Nat} {x : Int} : hR (uI σ o k x) a b = hR σ a b := rfl
theorem hL_uL_e {σ : am_HS} {o k : Nat} {x : Int} (h : rL x) : hL (uL σ o k x) o k = x := by simp only [hL, uL, and_self, if_true]; exact wL_e h
theorem hL_uL_n {σ : am_HS} {o k a b : Nat} {x : Int} (h : ¬ (a = o ∧ b = k)) : hL (uL σ o k x) a b = hL σ a b := by simp only [hL, uL, if_neg h]
theorem hI_uL {σ : am_HS} {o k a b : Nat} {x : Int} : hI (uL σ o k x) a b = hI σ a b := rfl
theorem hR_uL {σ : am_HS} {o k a b : Nat} {x : Int} : hR (uL σ o k x) a b = hR σ a b := rfl
theorem hR_uR_e {σ : am_HS} {o k : Nat} {x : Option Nat} : hR (uR σ o k x) o k = x := by simp only [hR, uR, and_self, if_true]
theorem hR_uR_n {σ : am_HS} {o k a b : Nat} {x : Option Nat} (h : ¬ (a = o ∧ b = k)) : hR (uR σ o k x) a b = hR σ a b := by simp only [hR, uR, if_neg h]
theorem hI_uR {σ : am_HS} {o k a b : Nat} {x : Option Nat} : hI (uR σ o k x) a b = hI σ a b := rfl
theorem hL_uR {σ : am_HS} {o k a b : Nat} {x : Option Nat} : hL (uR σ o k x) a b = hL σ a b := rfl
