/-! calls that never throw: what they answer. Mine. -/
theorem k_dec {P G : Prop} (h1 : ¬ P → G) (h2 : P → G) : G := (Classical.em P).elim h2 h1
def isOk {α : Type} : Nat ⊕ α → Bool
  | .inl _ => false
  | .inr _ => true
def ok1 {α : Type} : Nat ⊕ (Int32 × α) → Int32
  | .inl _ => 0
  | .inr x => x.1
def okp {α : Type} [Inhabited α] : Nat ⊕ (Int32 × α) → Int32 × α
  | .inl _ => (0, default)
  | .inr x => x
theorem k_no {α : Type} {F : Nat ⊕ α} {c : Nat} (h : F = Sum.inl c) (hok : isOk F = true) : False := by
  rw [h] at hok
  exact Bool.false_ne_true hok
theorem k_no1 {F : Int32} (h : F = 1) (hok : F = 0) : False := by
  rw [h] at hok
  exact absurd hok (by decide)
theorem k_ok1 {α : Type} {F : Nat ⊕ (Int32 × α)} {v : Int32} {u : α} (h : F = Sum.inr (v, u)) : v = ok1 F := by rw [h]; rfl
theorem k_okp {α : Type} [Inhabited α] {F : Nat ⊕ (Int32 × α)} {v : Int32} {u : α} (h : F = Sum.inr (v, u)) : (v, u) = okp F := by rw [h]; rfl
theorem ok_inr {α : Type} {F : Nat ⊕ α} {x : α} (h : F = Sum.inr x) : isOk F = true := by rw [h]; rfl
