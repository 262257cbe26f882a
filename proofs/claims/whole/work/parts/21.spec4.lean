/-! THE SPECIFICATION: caps and lists -/
def capV (op num : Int) (v : Vl) : Vl := match v with
  | some (some q) => if op = 10 then vN (if num * q.2 ≤ q.1 then 1 else 0) 1 else if num * q.2 ≤ q.1 then vN num 1 else v
  | v => v
def insR {α : Type} (lt : α → α → Bool) (y : α) : List α → List α
  | [] => [y]
  | a :: t => if lt a y then a :: insR lt y t else y :: a :: t
/-- from the least on -/
def sortR {α : Type} (lt : α → α → Bool) (l : List α) : List α := l.foldl (fun acc y => insR lt y acc) []
def qlt (a y : Int × Int) : Bool := decide (a.1 * y.2 < y.1 * a.2)
def sumL (l : List (Int × Int)) : Vl := l.foldl (fun acc q => addV acc q.1 q.2) (vN 0 1)
def pickV (op num : Int) (L : List (Int × Int)) : Vl :=
  if op = 4 then ((sortR qlt L).reverse.head?).map (fun q => some q)
  else if op = 5 then ((sortR qlt L).head?).map (fun q => some q)
  else if op = 7 then sumL ((sortR qlt L).reverse.take num.toNat)
  else sumL ((sortR qlt L).reverse.take (L.length - num.toNat))
/-- one array's cells -/
def putA (σ : am_HS) (o : Nat) (g : Nat → Int32) : am_HS := (fun a b => if a = o then g b else σ.1 a b, σ.2)
theorem putA_id (σ : am_HS) (o : Nat) : putA σ o (σ.1 o) = σ := by
  unfold putA
  refine Prod.ext ?_ rfl
  funext a b
  dsimp only
  split
  · rename_i h; rw [h]
  · rfl
theorem hI_putA {σ : am_HS} {o a b : Nat} {g : Nat → Int32} (h : a ≠ o) : hI (putA σ o g) a b = hI σ a b := by simp only [hI, putA, if_neg h]
theorem hI_putA_s {σ : am_HS} {o b : Nat} {g : Nat → Int32} : hI (putA σ o g) o b = (g b).toInt := by simp only [hI, putA, if_true]
theorem hL_putA {σ : am_HS} {o a b : Nat} {g : Nat → Int32} : hL (putA σ o g) a b = hL σ a b := rfl
def upG (g : Nat → Int32) (k : Nat) (x : Int) : Nat → Int32 := fun b => if b = k then Int32.ofInt x else g b
theorem uI_putA (σ : am_HS) (o k : Nat) (g : Nat → Int32) (x : Int) : uI (putA σ o g) o k x = putA σ o (upG g k x) := by
  unfold uI putA upG
  refine Prod.ext ?_ rfl
  funext a b
  dsimp only
  by_cases h : a = o
  · simp only [h, true_and, if_true]
  · simp only [h, false_and, if_false]
theorem upG_e {g : Nat → Int32} {k : Nat} {x : Int} (h : rI x) : (upG g k x k).toInt = x := by simp only [upG, if_true]; exact wI_e h
theorem upG_n {g : Nat → Int32} {k j : Nat} {x : Int} (h : j ≠ k) : upG g k x j = g j := by simp only [upG, if_neg h]
theorem insR_len {α : Type} (lt : α → α → Bool) (y : α) : ∀ l : List α, (insR lt y l).length = l.length + 1
  | [] => rfl
  | a :: t => by
    unfold insR
    split
    · simp [insR_len lt y t]
    · simp
theorem insR_split {α : Type} {lt : α → α → Bool} {y : α} : ∀ (P S : List α), (∀ a ∈ P, lt a y = true) → (∀ a t, S = a :: t → lt a y = false) → insR lt y (P ++ S) = P ++ y :: S
  | [], S, _, h => by
    cases S with
    | nil => rfl
    | cons a t => simp [insR, h a t rfl]
  | a :: P, S, h1, h2 => by
    simp [insR, h1 a (by simp), insR_split P S (fun b hb => h1 b (by simp [hb])) h2]
theorem sortR_snoc {α : Type} (lt : α → α → Bool) (l : List α) (y : α) : sortR lt (l ++ [y]) = insR lt y (sortR lt l) := by simp [sortR]
theorem sortR_len {α : Type} (lt : α → α → Bool) (l : List α) : (sortR lt l).length = l.length := by
  suffices h : ∀ (l acc : List α), (l.foldl (fun acc y => insR lt y acc) acc).length = acc.length + l.length by
    have := h l []
    simpa [sortR] using this
  intro l
  induction l with
  | nil => intro acc; simp
  | cons a t ih => intro acc; simp [ih, insR_len]; omega
theorem insR_mem {α : Type} {lt : α → α → Bool} {y a : α} : ∀ {l : List α}, a ∈ insR lt y l → a = y ∨ a ∈ l
  | [], h => by simp [insR] at h; exact Or.inl h
  | b :: t, h => by
    unfold insR at h
    split at h
    · rcases List.mem_cons.mp h with h | h
      · right; simp [h]
      · rcases insR_mem h with h | h
        · exact Or.inl h
        · right; simp [h]
    · rcases List.mem_cons.mp h with h | h
      · exact Or.inl h
      · exact Or.inr h
theorem sortR_mem {α : Type} {lt : α → α → Bool} {a : α} {l : List α} (h : a ∈ sortR lt l) : a ∈ l := by
  suffices H : ∀ (l acc : List α), a ∈ l.foldl (fun acc y => insR lt y acc) acc → a ∈ acc ∨ a ∈ l by
    rcases H l [] h with h | h
    · cases h
    · exact h
  intro l
  induction l with
  | nil => intro acc h; exact Or.inl h
  | cons b t ih =>
    intro acc h
    rcases ih _ h with h | h
    · rcases insR_mem h with h | h
      · right; simp [h]
      · exact Or.inl h
    · right; simp [h]
theorem insR_map {α β : Type} {lt : α → α → Bool} {lt2 : β → β → Bool} {f : α → β} (h : ∀ a b, lt a b = lt2 (f a) (f b)) (y : α) : ∀ l : List α, (insR lt y l).map f = insR lt2 (f y) (l.map f)
  | [] => rfl
  | a :: t => by
    unfold insR
    rw [h a y]
    simp only [List.map_cons]
    split
    · simp [insR_map h y t]
    · simp
theorem sortR_map {α β : Type} {lt : α → α → Bool} {lt2 : β → β → Bool} {f : α → β} (h : ∀ a b, lt a b = lt2 (f a) (f b)) (l : List α) : (sortR lt l).map f = sortR lt2 (l.map f) := by
  suffices H : ∀ (l acc : List α), (l.foldl (fun acc y => insR lt y acc) acc).map f = (l.map f).foldl (fun acc y => insR lt2 y acc) (acc.map f) by
    have := H l []
    simpa [sortR] using this
  intro l
  induction l with
  | nil => intro acc; rfl
  | cons b t ih => intro acc; simp only [List.foldl_cons, List.map_cons]; rw [ih, insR_map h]
