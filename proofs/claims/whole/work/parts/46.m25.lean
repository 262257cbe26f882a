/-! THE SPECIFICATION: the grammar -/
abbrev NDn : Type := (Int → Vl) → Vl
abbrev PR : Type := Nat ⊕ (NDn × Nat)
def fnS (c : Int) : Int := if c = 9528 then 4 else if c = 9734 then 5 else if c = 259565 then 6 else if c = 43544 then 7 else if c = 92275 then 8 else if c = 2230 then 9 else if c = 316189 then 10 else 0
def wkS (c : Int) : Int := if 622 ≤ c ∧ c < 632 then c - 622 else -1
def cmbL (op num : Int) (l : List (NDn × Bool)) : NDn := fun env => comb op num (l.map (fun c => (c.1 env, if c.2 = true then 1 else 0, if c.2 = true then 0 else 2)))
def pLS (prod : Nat → PR) (T : Nat → Int × Int) : Nat → List (NDn × Bool) → Nat → PR
  | 0, _, i => .inl i
  | m + 1, l, i => if T i = (3, 43) ∨ T i = (3, 45) then (match prod (i + 1) with
      | .inl f => .inl f
      | .inr q => pLS prod T m (l ++ [(q.1, decide (T i = (3, 45)))]) q.2) else .inr (cmbL 2 0 l, i)
def pLP (one : Nat → PR) (T : Nat → Int × Int) : Nat → List (NDn × Bool) → Nat → PR
  | 0, _, i => .inl i
  | m + 1, l, i => if T i = (3, 42) then (match one (i + 1) with
      | .inl f => .inl f
      | .inr q => pLP one T m (l ++ [(q.1, false)]) q.2)
    else if T i = (3, 47) then (if (T (i + 1)).1 = 1 ∧ (T (i + 1)).2 ≠ 0 then pLP one T m (l ++ [(fun _ => vN (T (i + 1)).2 1, true)]) (i + 2) else .inl (i + 1))
    else .inr (cmbL 3 0 l, i)
def pLC (sum : Nat → PR) (T : Nat → Int × Int) (op num : Int) : Nat → List (NDn × Bool) → Nat → PR
  | 0, _, i => .inl i
  | m + 1, l, i => if T i = (3, 44) then (if l.length = 10 then .inl i else (match sum (i + 1) with
      | .inl f => .inl f
      | .inr q => pLC sum T op num m (l ++ [(q.1, false)]) q.2))
    else if T i = (3, 41) then .inr (cmbL op num l, i + 1) else .inl i
def pPW (one : Nat → PR) (T : Nat → Int × Int) (i : Nat) : PR := match one i with
  | .inl f => .inl f
  | .inr q => pLP one T 650 [(q.1, false)] q.2
def pSW (one : Nat → PR) (T : Nat → Int × Int) (i : Nat) : PR := match pPW one T i with
  | .inl f => .inl f
  | .inr q => pLS (pPW one T) T 650 [(q.1, false)] q.2
/-- behind a function's name and number: its parenthesis at i -/
def pLj (sm : Option (Nat → PR)) (T : Nat → Int × Int) (op num : Int) (i : Nat) : PR :=
  if T i = (3, 40) then (match sm with
    | none => .inl i
    | some sum => match sum (i + 1) with
      | .inl f => .inl f
      | .inr q => if 9 ≤ op then (if T q.2 = (3, 44) then (if (T (q.2 + 1)).1 = 1 then (if T (q.2 + 2) = (3, 41) then .inr (cmbL op (T (q.2 + 1)).2 [(q.1, false)], q.2 + 3) else .inl (q.2 + 2)) else .inl (q.2 + 1)) else .inl q.2)
        else pLC sum T op num 650 [(q.1, false)] q.2) else .inl i
def pLi (sm : Option (Nat → PR)) (T : Nat → Int × Int) (op : Int) (i : Nat) : PR :=
  if op = 7 ∨ op = 8 then (if (T i).1 = 1 then pLj sm T op (T i).2 (i + 1) else .inl i) else pLj sm T op 0 i
def pOW (sm : Option (Nat → PR)) (T : Nat → Int × Int) (i : Nat) : PR :=
  if (T i).1 = 1 then .inr (fun _ => vN (T i).2 1, i + 1)
  else if T i = (3, 40) then (match sm with
    | none => .inl i
    | some sum => match sum (i + 1) with
      | .inl f => .inl f
      | .inr q => if T q.2 = (3, 41) then .inr (q.1, q.2 + 1) else .inl q.2)
  else if (T i).1 = 2 then (if fnS (T i).2 = 0 then .inr (fun env => env (T i).2, i + 1) else pLi sm T (fnS (T i).2) (i + 1))
  else .inl i
def pO (T : Nat → Int × Int) : Nat → Nat → PR
  | 0 => pOW none T
  | k + 1 => pOW (some (pSW (pO T k) T)) T
def pS (T : Nat → Int × Int) (k : Nat) : Nat → PR := pSW (pO T k) T
/-- the words of a text -/
def tkT (tx : Nat → Int) (n : Nat) : Nat → Int × Int := fun i => ((tkS tx n (psS tx n i)).1, (tkS tx n (psS tx n i)).2.1)
def plT (tx : Nat → Int) (n : Nat) : Nat → Nat := fun i => (tkS tx n (psS tx n i)).2.2.1
/-! what is read: the reference's trees, before their names are tied -/
def NdP (t : TD) : Nat → Nat → Nat → NDn → Prop
  | 0, _, _, _ => False
  | f + 1, x, hi, e => hi ≤ 3200 ∧ x < hi ∧ (
    (t.1 x = 0 ∧ hi = x + 1 ∧ (0 ≤ t.2.1 x ∧ t.2.1 x ≤ 9999) ∧ e = fun _ => vN (t.2.1 x) 1) ∨
    (t.1 x = 1 ∧ hi = x + 1 ∧ e = fun env => env (t.2.1 x)) ∨
    ((2 ≤ t.1 x ∧ t.1 x ≤ 10) ∧ (0 ≤ t.2.1 x ∧ t.2.1 x ≤ 9999) ∧ ∃ cs : List (Nat × (NDn × Bool)), cs ≠ [] ∧ (4 ≤ t.1 x → cs.length ≤ 10) ∧ (9 ≤ t.1 x → cs.length = 1) ∧ NdK t (NdP t f) (t.2.2.1 x) (x + 1) hi cs ∧ (∀ q ∈ cs, FlK t (t.1 x) q) ∧ e = cmbL (t.1 x) (t.2.1 x) (cs.map (fun q => q.2))))
where
  NdK (t : TD) (P : Nat → Nat → NDn → Prop) : Int → Nat → Nat → List (Nat × (NDn × Bool)) → Prop
  | y, lo, hi, [] => y < 0 ∧ lo = hi
  | y, lo, hi, q :: l => y = (lo : Int) ∧ q.1 = lo ∧ ∃ mid, lo < mid ∧ P lo mid q.2.1 ∧ NdK t P (t.2.2.2.1 lo) mid hi l
  FlK (t : TD) (op : Int) (q : Nat × (NDn × Bool)) : Prop := if op = 2 then (t.2.2.2.2 q.1 = if q.2.2 = true then 1 else 0) else if op = 3 then (if q.2.2 = true then t.2.2.2.2 q.1 = 1 ∧ t.1 q.1 = 0 ∧ 1 ≤ t.2.1 q.1 else t.2.2.2.2 q.1 = 0) else (t.2.2.2.2 q.1 = 0 ∧ q.2.2 = false)

