/-! THE ABSTRACT MACHINE: a method's run over a fixed layout of cells, as a relation; no words, no heaps of the machine: what stands here is tied to the machine once, in the part behind it -/
abbrev am_V : Type := Int ⊕ (Int ⊕ Option Nat)
abbrev am_HS : Type := (Nat → Nat → Int32) × ((Nat → Nat → Int64) × (Nat → Nat → Option Nat))
abbrev am_LV : Type := List (Option am_V)
abbrev vI (x : Int) : am_V := .inl x
abbrev vL (x : Int) : am_V := .inr (.inl x)
abbrev vR (r : Option Nat) : am_V := .inr (.inr r)
def hI (σ : am_HS) (o k : Nat) : Int := (σ.1 o k).toInt
def hL (σ : am_HS) (o k : Nat) : Int := (σ.2.1 o k).toInt
def hR (σ : am_HS) (o k : Nat) : Option Nat := σ.2.2 o k
def uI (σ : am_HS) (o k : Nat) (x : Int) : am_HS := (fun a b => if a = o ∧ b = k then Int32.ofInt x else σ.1 a b, σ.2)
def uL (σ : am_HS) (o k : Nat) (x : Int) : am_HS := (σ.1, fun a b => if a = o ∧ b = k then Int64.ofInt x else σ.2.1 a b, σ.2.2)
def uR (σ : am_HS) (o k : Nat) (x : Option Nat) : am_HS := (σ.1, σ.2.1, fun a b => if a = o ∧ b = k then x else σ.2.2 a b)
def wI (x : Int) : Int := (Int32.ofInt x).toInt
def wL (x : Int) : Int := (Int64.ofInt x).toInt
def rI (x : Int) : Prop := -2147483648 ≤ x ∧ x ≤ 2147483647
def rL (x : Int) : Prop := -9223372036854775808 ≤ x ∧ x ≤ 9223372036854775807
theorem wI_r (x : Int) : rI (wI x) := ⟨by have := Int32.le_toInt (Int32.ofInt x); unfold wI; omega, by have := Int32.toInt_lt (Int32.ofInt x); unfold wI; omega⟩
theorem wL_r (x : Int) : rL (wL x) := ⟨by have := Int64.le_toInt (Int64.ofInt x); unfold wL; omega, by have := Int64.toInt_lt (Int64.ofInt x); unfold wL; omega⟩
theorem wI_e {x : Int} (h : rI x) : wI x = x := Int32.toInt_ofInt_of_le (by have := h.1; omega) (by have := h.2; omega)
theorem wL_e {x : Int} (h : rL x) : wL x = x := Int64.toInt_ofInt_of_le (by have := h.1; omega) (by have := h.2; omega)
theorem hI_r (σ : am_HS) (o k : Nat) : rI (hI σ o k) := ⟨by have := Int32.le_toInt (σ.1 o k); unfold hI; omega, by have := Int32.toInt_lt (σ.1 o k); unfold hI; omega⟩
theorem hL_r (σ : am_HS) (o k : Nat) : rL (hL σ o k) := ⟨by have := Int64.le_toInt (σ.2.1 o k); unfold hL; omega, by have := Int64.toInt_lt (σ.2.1 o k); unfold hL; omega⟩
def am_cat : am_V → Nat
  | .inl _ => 1
  | .inr (.inl _) => 2
  | .inr (.inr _) => 1
def am_cats : List am_V → Nat
  | [] => 0
  | v :: t => am_cat v + am_cats t
/-- a local is known -/
def lvg : am_LV → Nat → Option am_V
  | [], _ => none
  | v :: _, 0 => v
  | _ :: t, i + 1 => lvg t i
/-- a store of one slot (of two): what it covers is unknown then -/
def am_kill : am_LV → Nat → am_LV
  | [], _ => []
  | v :: t, 0 => (match v with | some (.inr (.inl _)) => none | v => v) :: t
  | v :: t, i + 1 => v :: am_kill t i
def lst1 : am_LV → Nat → am_V → am_LV
  | [], _, _ => []
  | _ :: t, 0, v => some v :: t
  | u :: t, i + 1, v => match i with
    | 0 => (match u with | some (.inr (.inl _)) => none | u => u) :: lst1 t 0 v
    | i + 1 => u :: lst1 t (i + 1) v
def lst2 : am_LV → Nat → am_V → am_LV
  | [], _, _ => []
  | _ :: t, 0, v => some v :: (match t with | [] => [] | _ :: t => none :: t)
  | u :: t, i + 1, v => match i with
    | 0 => (match u with | some (.inr (.inl _)) => none | u => u) :: lst2 t 0 v
    | i + 1 => u :: lst2 t (i + 1) v
/-- the locals at the entry -/
def am_ent : List am_V → Nat → am_LV
  | [], n => List.replicate n none
  | .inr (.inl x) :: t, n => some (.inr (.inl x)) :: none :: am_ent t (n - 2)
  | v :: t, n => some v :: am_ent t (n - 1)
def ap1 (st : List am_V) (f : Int → List am_V → Prop) : Prop := match st with
  | .inl x :: r => f x r
  | _ => False
def ap2 (st : List am_V) (f : Int → Int → List am_V → Prop) : Prop := match st with
  | .inl y :: .inl x :: r => f x y r
  | _ => False
def aq1 (st : List am_V) (f : Int → List am_V → Prop) : Prop := match st with
  | .inr (.inl x) :: r => f x r
  | _ => False
def aq2 (st : List am_V) (f : Int → Int → List am_V → Prop) : Prop := match st with
  | .inr (.inl y) :: .inr (.inl x) :: r => f x y r
  | _ => False
def aqi (st : List am_V) (f : Int → Int → List am_V → Prop) : Prop := match st with
  | .inl y :: .inr (.inl x) :: r => f x y r
  | _ => False
def ar1 (st : List am_V) (f : Option Nat → List am_V → Prop) : Prop := match st with
  | .inr (.inr x) :: r => f x r
  | _ => False
/-- an array's cell and a place in it -/
def aix (lay : Nat → Nat ⊕ (Nat × Nat)) (st : List am_V) (k : Nat) (f : Nat → Nat → List am_V → Prop) : Prop := match st with
  | .inl i :: .inr (.inr (some o)) :: r => ∃ N, lay o = .inr (k, N) ∧ 0 ≤ i ∧ i < (N : Int) ∧ f o i.toNat r
  | _ => False
def am_lcmp (x y : Int) : Int := if y < x then 1 else if x = y then 0 else -1
def am_jmp (pc : Nat) (off : Int) (f : Nat → Prop) : Prop := 0 ≤ (pc : Int) + off ∧ f ((pc : Int) + off).toNat
def am_find (ps : List (Int × Int)) (d x : Int) : Int := match ps with
  | [] => d
  | (a, o) :: t => if x = a then o else am_find t d x
/-- what a method's number tells: its own class's number, its code, its locals, its parameters, its kind of answer (0 none, 1 int, 2 boolean, 3 long, 4 a cell), whether it is static, the class of its receiver -/
abbrev am_MI : Type := Nat × ByteArray × Nat × Nat × Nat × Bool × Nat

/-- the tables: fields, methods, constants, long constants (by own class's number and place in its pool), and the machine's own functions -/
abbrev am_T : Type := (Nat → Nat → Option (Nat × Nat)) × (Nat → Nat → Option Nat) × (Nat → Nat → Option Int) × (Nat → Nat → Option Int) × (Nat → Nat → Nat)
/-- one instruction -/
def am_stp (T : am_T) (M : Nat → am_MI) (lay : Nat → Nat ⊕ (Nat × Nat)) (E : Nat → am_HS → List am_V → Option am_V → am_HS → Prop) (c nL rt : Nat) (ins : ClassFile.Instr) (len pc : Nat) (lv : am_LV) (st : List am_V) (σ : am_HS) (K : Nat → am_LV → List am_V → am_HS → Prop) (RR : Option am_V → am_HS → Prop) : Prop :=
  match ins with
  | .iconst n => len = 1 ∧ rI n ∧ K (pc + 1) lv (vI n :: st) σ
  | .bipush n => len = 2 ∧ (-128 ≤ n ∧ n ≤ 127) ∧ K (pc + 2) lv (vI n :: st) σ
  | .sipush n => len = 3 ∧ (-32768 ≤ n ∧ n ≤ 32767) ∧ K (pc + 3) lv (vI n :: st) σ
  | .lconst n => len = 1 ∧ K (pc + 1) lv (vL ((n : Nat) : Int) :: st) σ
  | .aconst_null => len = 1 ∧ K (pc + 1) lv (vR none :: st) σ
  | .iload_n k => len = 1 ∧ ∃ x, lvg lv k = some (vI x) ∧ K (pc + 1) lv (vI x :: st) σ
  | .iload k => len = 2 ∧ ∃ x, lvg lv k = some (vI x) ∧ K (pc + 2) lv (vI x :: st) σ
  | .lload_n k => len = 1 ∧ ∃ x, lvg lv k = some (vL x) ∧ K (pc + 1) lv (vL x :: st) σ
  | .lload k => len = 2 ∧ ∃ x, lvg lv k = some (vL x) ∧ K (pc + 2) lv (vL x :: st) σ
  | .aload_n k => len = 1 ∧ ∃ x, lvg lv k = some (vR x) ∧ K (pc + 1) lv (vR x :: st) σ
  | .aload k => len = 2 ∧ ∃ x, lvg lv k = some (vR x) ∧ K (pc + 2) lv (vR x :: st) σ
  | .istore_n k => len = 1 ∧ ap1 st fun x r => (k : Nat) < nL ∧ K (pc + 1) (lst1 lv k (vI x)) r σ
  | .istore k => len = 2 ∧ ap1 st fun x r => k < nL ∧ K (pc + 2) (lst1 lv k (vI x)) r σ
  | .lstore_n k => len = 1 ∧ aq1 st fun x r => (k : Nat) + 1 < nL ∧ K (pc + 1) (lst2 lv k (vL x)) r σ
  | .lstore k => len = 2 ∧ aq1 st fun x r => k + 1 < nL ∧ K (pc + 2) (lst2 lv k (vL x)) r σ
  | .astore_n k => len = 1 ∧ ar1 st fun x r => (k : Nat) < nL ∧ K (pc + 1) (lst1 lv k (vR x)) r σ
  | .astore k => len = 2 ∧ ar1 st fun x r => k < nL ∧ K (pc + 2) (lst1 lv k (vR x)) r σ
  | .iinc k n => len = 3 ∧ k < nL ∧ ∃ x, lvg lv k = some (vI x) ∧ K (pc + 3) (lst1 lv k (vI (wI (x + n)))) st σ
  | .iadd => len = 1 ∧ ap2 st fun x y r => K (pc + 1) lv (vI (wI (x + y)) :: r) σ
  | .isub => len = 1 ∧ ap2 st fun x y r => K (pc + 1) lv (vI (wI (x - y)) :: r) σ
  | .imul => len = 1 ∧ ap2 st fun x y r => K (pc + 1) lv (vI (wI (x * y)) :: r) σ
  | .idiv => len = 1 ∧ ap2 st fun x y r => y ≠ 0 ∧ K (pc + 1) lv (vI (wI (x.tdiv y)) :: r) σ
  | .irem => len = 1 ∧ ap2 st fun x y r => y ≠ 0 ∧ K (pc + 1) lv (vI (wI (x.tmod y)) :: r) σ
  | .iand => len = 1 ∧ ap2 st fun x y r => K (pc + 1) lv (vI (Int32.ofInt x &&& Int32.ofInt y).toInt :: r) σ
  | .ior => len = 1 ∧ ap2 st fun x y r => K (pc + 1) lv (vI (Int32.ofInt x ||| Int32.ofInt y).toInt :: r) σ
  | .ixor => len = 1 ∧ ap2 st fun x y r => K (pc + 1) lv (vI (Int32.ofInt x ^^^ Int32.ofInt y).toInt :: r) σ
  | .ishl => len = 1 ∧ ap2 st fun x y r => K (pc + 1) lv (vI (Int32.ofInt x <<< (Int32.ofInt y &&& 31)).toInt :: r) σ
  | .ishr => len = 1 ∧ ap2 st fun x y r => K (pc + 1) lv (vI (Int32.ofInt x >>> (Int32.ofInt y &&& 31)).toInt :: r) σ
  | .iushr => len = 1 ∧ ap2 st fun x y r => K (pc + 1) lv (vI (((Int32.ofInt x).toUInt32 >>> ((Int32.ofInt y).toUInt32 &&& Int32.toUInt32 31)).toInt32).toInt :: r) σ
  | .ineg => len = 1 ∧ ap1 st fun x r => K (pc + 1) lv (vI (wI (-x)) :: r) σ
  | .ladd => len = 1 ∧ aq2 st fun x y r => K (pc + 1) lv (vL (wL (x + y)) :: r) σ
  | .lsub => len = 1 ∧ aq2 st fun x y r => K (pc + 1) lv (vL (wL (x - y)) :: r) σ
  | .lmul => len = 1 ∧ aq2 st fun x y r => K (pc + 1) lv (vL (wL (x * y)) :: r) σ
  | .ldiv => len = 1 ∧ aq2 st fun x y r => y ≠ 0 ∧ K (pc + 1) lv (vL (wL (x.tdiv y)) :: r) σ
  | .lrem => len = 1 ∧ aq2 st fun x y r => y ≠ 0 ∧ K (pc + 1) lv (vL (wL (x.tmod y)) :: r) σ
  | .land => len = 1 ∧ aq2 st fun x y r => K (pc + 1) lv (vL (Int64.ofInt x &&& Int64.ofInt y).toInt :: r) σ
  | .lor => len = 1 ∧ aq2 st fun x y r => K (pc + 1) lv (vL (Int64.ofInt x ||| Int64.ofInt y).toInt :: r) σ
  | .lshl => len = 1 ∧ aqi st fun x y r => K (pc + 1) lv (vL (Int64.ofInt x <<< ((Int32.ofInt y).toInt64 &&& 63)).toInt :: r) σ
  | .lshr => len = 1 ∧ aqi st fun x y r => K (pc + 1) lv (vL (Int64.ofInt x >>> ((Int32.ofInt y).toInt64 &&& 63)).toInt :: r) σ
  | .lneg => len = 1 ∧ aq1 st fun x r => K (pc + 1) lv (vL (wL (-x)) :: r) σ
  | .lcmp => len = 1 ∧ aq2 st fun x y r => K (pc + 1) lv (vI (am_lcmp x y) :: r) σ
  | .i2l => len = 1 ∧ ap1 st fun x r => K (pc + 1) lv (vL x :: r) σ
  | .l2i => len = 1 ∧ aq1 st fun x r => K (pc + 1) lv (vI (wI x) :: r) σ
  | .i2b => len = 1 ∧ ap1 st fun x r => K (pc + 1) lv (vI ((Int32.ofInt x).toInt8.toInt32).toInt :: r) σ
  | .dup => len = 1 ∧ match st with | v :: r => am_cat v = 1 ∧ K (pc + 1) lv (v :: v :: r) σ | [] => False
  | .pop => len = 1 ∧ match st with | v :: r => am_cat v = 1 ∧ K (pc + 1) lv r σ | [] => False
  | .dup_x1 => len = 1 ∧ match st with | v :: u :: r => am_cat v = 1 ∧ am_cat u = 1 ∧ K (pc + 1) lv (v :: u :: v :: r) σ | _ => False
  | .dup2 => len = 1 ∧ match st with | v :: r => (am_cat v = 2 ∧ K (pc + 1) lv (v :: v :: r) σ) ∨ (am_cat v = 1 ∧ match r with | u :: r => am_cat u = 1 ∧ K (pc + 1) lv (v :: u :: v :: u :: r) σ | [] => False) | [] => False
  | .if_icmp .eq off => len = 3 ∧ ap2 st fun x y r => am_jmp pc off fun tgt => if x = y then K tgt lv r σ else K (pc + 3) lv r σ
  | .if_icmp .ne off => len = 3 ∧ ap2 st fun x y r => am_jmp pc off fun tgt => if ¬ x = y then K tgt lv r σ else K (pc + 3) lv r σ
  | .if_icmp .lt off => len = 3 ∧ ap2 st fun x y r => am_jmp pc off fun tgt => if x < y then K tgt lv r σ else K (pc + 3) lv r σ
  | .if_icmp .ge off => len = 3 ∧ ap2 st fun x y r => am_jmp pc off fun tgt => if y ≤ x then K tgt lv r σ else K (pc + 3) lv r σ
  | .if_icmp .gt off => len = 3 ∧ ap2 st fun x y r => am_jmp pc off fun tgt => if y < x then K tgt lv r σ else K (pc + 3) lv r σ
  | .if_icmp .le off => len = 3 ∧ ap2 st fun x y r => am_jmp pc off fun tgt => if x ≤ y then K tgt lv r σ else K (pc + 3) lv r σ
  | .ifCond .eq off => len = 3 ∧ ap1 st fun x r => am_jmp pc off fun tgt => if x = 0 then K tgt lv r σ else K (pc + 3) lv r σ
  | .ifCond .ne off => len = 3 ∧ ap1 st fun x r => am_jmp pc off fun tgt => if ¬ x = 0 then K tgt lv r σ else K (pc + 3) lv r σ
  | .ifCond .lt off => len = 3 ∧ ap1 st fun x r => am_jmp pc off fun tgt => if x < 0 then K tgt lv r σ else K (pc + 3) lv r σ
  | .ifCond .ge off => len = 3 ∧ ap1 st fun x r => am_jmp pc off fun tgt => if 0 ≤ x then K tgt lv r σ else K (pc + 3) lv r σ
  | .ifCond .gt off => len = 3 ∧ ap1 st fun x r => am_jmp pc off fun tgt => if 0 < x then K tgt lv r σ else K (pc + 3) lv r σ
  | .ifCond .le off => len = 3 ∧ ap1 st fun x r => am_jmp pc off fun tgt => if x ≤ 0 then K tgt lv r σ else K (pc + 3) lv r σ
  | .goto off => len = 3 ∧ am_jmp pc off fun tgt => K tgt lv st σ
  | .ifnull off => len = 3 ∧ ar1 st fun x r => am_jmp pc off fun tgt => if x = none then K tgt lv r σ else K (pc + 3) lv r σ
  | .ifnonnull off => len = 3 ∧ ar1 st fun x r => am_jmp pc off fun tgt => if x = none then K (pc + 3) lv r σ else K tgt lv r σ
  | .tableswitch d lo hi offs => ap1 st fun x r => if x < lo ∨ hi < x then am_jmp pc d fun tgt => K tgt lv r σ else ∃ off, offs[(x - lo).toNat]? = some off ∧ am_jmp pc off fun tgt => K tgt lv r σ
  | .lookupswitch d ps => ap1 st fun x r => (ps.toList.zip (ps.toList.drop 1)).all (fun (a, next) => a.1 < next.1) = true ∧ am_jmp pc (Op.lookupswitch.offset ps.toList d x) fun tgt => K tgt lv r σ
  | .ldc i => len = 2 ∧ ∃ v, T.2.2.1 c i = some v ∧ rI v ∧ K (pc + 2) lv (vI v :: st) σ
  | .ldc_w i => len = 3 ∧ ∃ v, T.2.2.1 c i = some v ∧ rI v ∧ K (pc + 3) lv (vI v :: st) σ
  | .ldc2_w i => len = 3 ∧ ∃ v, T.2.2.2.1 c i = some v ∧ rL v ∧ K (pc + 3) lv (vL v :: st) σ
  | .getfield i => len = 3 ∧ ∃ ci k, T.1 c i = some (ci, k) ∧ ar1 st fun x r => ∃ o, x = some o ∧ lay o = .inl ci ∧ (match am_fty ci k with | 0 => K (pc + 3) lv (vI (hI σ o k) :: r) σ | 1 => K (pc + 3) lv (vI (hI σ o k) :: r) σ | 2 => K (pc + 3) lv (vL (hL σ o k) :: r) σ | _ => K (pc + 3) lv (vR (hR σ o k) :: r) σ)
  | .putfield i => len = 3 ∧ ∃ ci k, T.1 c i = some (ci, k) ∧ am_ffin ci k = false ∧ match st with
    | v :: .inr (.inr (some o)) :: r => lay o = .inl ci ∧ (match am_fty ci k, v with | 0, .inl x => K (pc + 3) lv r (uI σ o k x) | 1, .inl x => (x = 0 ∨ x = 1) ∧ K (pc + 3) lv r (uI σ o k x) | 2, .inr (.inl x) => K (pc + 3) lv r (uL σ o k x) | 3, .inr (.inr x) => K (pc + 3) lv r (uR σ o k x) | _, _ => False)
    | _ => False
  | .iaload => len = 1 ∧ aix lay st 0 fun o j r => K (pc + 1) lv (vI (hI σ o j) :: r) σ
  | .baload => len = 1 ∧ (aix lay st 1 (fun o j r => K (pc + 1) lv (vI (hI σ o j) :: r) σ) ∨ aix lay st 2 (fun o j r => K (pc + 1) lv (vI (hI σ o j) :: r) σ))
  | .laload => len = 1 ∧ aix lay st 3 fun o j r => K (pc + 1) lv (vL (hL σ o j) :: r) σ
  | .aaload => len = 1 ∧ (aix lay st 4 (fun o j r => K (pc + 1) lv (vR (hR σ o j) :: r) σ) ∨ aix lay st 5 (fun o j r => K (pc + 1) lv (vR (hR σ o j) :: r) σ))
  | .iastore => len = 1 ∧ ap1 st fun x r => aix lay r 0 fun o j r => K (pc + 1) lv r (uI σ o j x)
  | .bastore => len = 1 ∧ ap1 st fun x r => (aix lay r 1 (fun o j r => (-128 ≤ x ∧ x ≤ 127) ∧ K (pc + 1) lv r (uI σ o j x)) ∨ aix lay r 2 (fun o j r => (x = 0 ∨ x = 1) ∧ K (pc + 1) lv r (uI σ o j x)))
  | .lastore => len = 1 ∧ aq1 st fun x r => aix lay r 3 fun o j r => K (pc + 1) lv r (uL σ o j x)
  | .arraylength => len = 1 ∧ ar1 st fun x r => ∃ o k N, x = some o ∧ lay o = .inr (k, N) ∧ k < 6 ∧ N < 2147483648 ∧ K (pc + 1) lv (vI (N : Int) :: r) σ
  | .invokevirtual i => len = 3 ∧ ∃ mi, T.2.1 c i = some mi ∧ (M mi).2.2.2.2.2.1 = false ∧ match st.drop (M mi).2.2.2.1 with
    | .inr (.inr (some o)) :: rest => lay o = .inl (M mi).2.2.2.2.2.2 ∧ am_cats rest ≤ 8 ∧ ∃ r σ1, E mi σ (vR (some o) :: (st.take (M mi).2.2.2.1).reverse) r σ1 ∧ K (pc + 3) lv (r.toList ++ rest) σ1
    | _ => False
  | .invokestatic i => len = 3 ∧ ((∃ mi, T.2.1 c i = some mi ∧ (M mi).2.2.2.2.2.1 = true ∧ (M mi).2.2.2.1 ≤ st.length ∧ am_cats (st.drop (M mi).2.2.2.1) ≤ 8 ∧ ∃ r σ1, E mi σ (st.take (M mi).2.2.2.1).reverse r σ1 ∧ K (pc + 3) lv (r.toList ++ st.drop (M mi).2.2.2.1) σ1)
    ∨ (T.2.2.2.2 c i = 1 ∧ ap2 st fun x y r => am_cats r ≤ 8 ∧ K (pc + 3) lv (vI (if x < y then y else x) :: r) σ)
    ∨ (T.2.2.2.2 c i = 2 ∧ ap2 st fun x y r => am_cats r ≤ 8 ∧ K (pc + 3) lv (vI (if y < x then y else x) :: r) σ)
    ∨ (T.2.2.2.2 c i = 3 ∧ aq2 st fun x y r => am_cats r ≤ 8 ∧ K (pc + 3) lv (vL (if y < x then x else y) :: r) σ)
    ∨ (T.2.2.2.2 c i = 4 ∧ aq1 st fun x r => am_cats r ≤ 8 ∧ K (pc + 3) lv (vL (if 0 < x then x else wL (-x)) :: r) σ))
  | .ireturn => len = 1 ∧ ap1 st fun x r => r = [] ∧ (rt = 1 ∨ (rt = 2 ∧ (x = 0 ∨ x = 1))) ∧ RR (some (vI x)) σ
  | .lreturn => len = 1 ∧ aq1 st fun x r => r = [] ∧ rt = 3 ∧ RR (some (vL x)) σ
  | .areturn => len = 1 ∧ ar1 st fun x r => r = [] ∧ rt = 4 ∧ RR (some (vR x)) σ
  | .return_ => len = 1 ∧ st = [] ∧ rt = 0 ∧ RR none σ
  | _ => False
/-- n instructions at most, from a place on, to an end -/
def am_gi (T : am_T) (M : Nat → am_MI) (lay : Nat → Nat ⊕ (Nat × Nat)) (E : Nat → am_HS → List am_V → Option am_V → am_HS → Prop) (c nL rt : Nat) (bb : ByteArray) : Nat → Nat → am_LV → List am_V → am_HS → Option am_V → am_HS → Prop
  | 0 => fun _ _ _ _ _ _ => False
  | n + 1 => fun pc lv st σ r σ1 => match decode bb pc with
    | .ok (ins, len) => am_stp T M lay E c nL rt ins len pc lv st σ (fun pc lv st σ => am_gi T M lay E c nL rt bb n pc lv st σ r σ1) (fun v σ2 => v = r ∧ σ2 = σ1)
    | .error _ => False
/-- a method's run, to a depth of calls -/
def am_Ev (T : am_T) (M : Nat → am_MI) (lay : Nat → Nat ⊕ (Nat × Nat)) : Nat → Nat → am_HS → List am_V → Option am_V → am_HS → Prop
  | 0 => fun _ _ _ _ _ => False
  | d + 1 => fun mi σ args r σ1 => am_cats args ≤ (M mi).2.2.1 ∧ ∃ n, am_gi T M lay (am_Ev T M lay d) (M mi).1 (M mi).2.2.1 (M mi).2.2.2.2.1 (M mi).2.1 n 0 (am_ent args (M mi).2.2.1) [] σ r σ1
