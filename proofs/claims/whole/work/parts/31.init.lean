/-- the make of all cells, class and reference, in the order of their making -/
def L0c : List Ly := [.inl (8, [.inl (some 1), .inl (some 2), .inl (some 4), .inl (some 19), .inl (some 34), .inl (some 35), .inl (some 36), .inl (some 37), .inl (some 38), .inr false, .inr false]),
  .inl (3, [.inl (some 2), .inr false, .inr false, .inr false]),
  .inl (6, [.inl (some 3), .inr false, .inr false, .inr false, .inr false, .inr false]),
  .inr (0, 160, .inl false),
  .inl (7, [.inl (some 5), .inl (some 6), .inr false, .inr false, .inr false, .inr false, .inl (some 7), .inl (some 8), .inl (some 9), .inr false]),
  .inr (5, 4, .inr [some 10, some 11, some 12, some 13]),
  .inr (4, 5, .inr [some 14, some 15, some 16, some 17, some 18]),
  .inr (1, 6, .inl false),
  .inr (1, 6, .inl false),
  .inr (1, 6, .inl false),
  .inl (4, [.inr false, .inr false, .inr false]),
  .inl (4, [.inr false, .inr false, .inr false]),
  .inl (4, [.inr false, .inr false, .inr false]),
  .inl (4, [.inr false, .inr false, .inr false]),
  .inl (1, [.inr false, .inr false, .inr false, .inr false, .inr false]),
  .inl (1, [.inr false, .inr false, .inr false, .inr false, .inr false]),
  .inl (1, [.inr false, .inr false, .inr false, .inr false, .inr false]),
  .inl (1, [.inr false, .inr false, .inr false, .inr false, .inr false]),
  .inl (1, [.inr false, .inr false, .inr false, .inr false, .inr false]),
  .inl (7, [.inl (some 20), .inl (some 21), .inr false, .inr false, .inr false, .inr false, .inl (some 22), .inl (some 23), .inl (some 24), .inr false]),
  .inr (5, 4, .inr [some 25, some 26, some 27, some 28]),
  .inr (4, 5, .inr [some 29, some 30, some 31, some 32, some 33]),
  .inr (1, 6, .inl false),
  .inr (1, 6, .inl false),
  .inr (1, 6, .inl false),
  .inl (4, [.inr false, .inr false, .inr false]),
  .inl (4, [.inr false, .inr false, .inr false]),
  .inl (4, [.inr false, .inr false, .inr false]),
  .inl (4, [.inr false, .inr false, .inr false]),
  .inl (1, [.inr false, .inr false, .inr false, .inr false, .inr false]),
  .inl (1, [.inr false, .inr false, .inr false, .inr false, .inr false]),
  .inl (1, [.inr false, .inr false, .inr false, .inr false, .inr false]),
  .inl (1, [.inr false, .inr false, .inr false, .inr false, .inr false]),
  .inl (1, [.inr false, .inr false, .inr false, .inr false, .inr false]),
  .inr (7, 2, .inr [some 40, some 55]),
  .inr (3, 2, .inl false),
  .inr (6, 4, .inr [some 70, some 72, some 74, some 76]),
  .inl (0, [.inr false, .inr false]),
  .inl (2, [.inl (some 39)]),
  .inr (2, 9, .inl true),
  .inl (7, [.inl (some 41), .inl (some 42), .inr false, .inr false, .inr false, .inr false, .inl (some 43), .inl (some 44), .inl (some 45), .inr false]),
  .inr (5, 4, .inr [some 46, some 47, some 48, some 49]),
  .inr (4, 5, .inr [some 50, some 51, some 52, some 53, some 54]),
  .inr (1, 6, .inl false),
  .inr (1, 6, .inl false),
  .inr (1, 6, .inl false),
  .inl (4, [.inr false, .inr false, .inr false]),
  .inl (4, [.inr false, .inr false, .inr false]),
  .inl (4, [.inr false, .inr false, .inr false]),
  .inl (4, [.inr false, .inr false, .inr false]),
  .inl (1, [.inr false, .inr false, .inr false, .inr false, .inr false]),
  .inl (1, [.inr false, .inr false, .inr false, .inr false, .inr false]),
  .inl (1, [.inr false, .inr false, .inr false, .inr false, .inr false]),
  .inl (1, [.inr false, .inr false, .inr false, .inr false, .inr false]),
  .inl (1, [.inr false, .inr false, .inr false, .inr false, .inr false]),
  .inl (7, [.inl (some 56), .inl (some 57), .inr false, .inr false, .inr false, .inr false, .inl (some 58), .inl (some 59), .inl (some 60), .inr false]),
  .inr (5, 4, .inr [some 61, some 62, some 63, some 64]),
  .inr (4, 5, .inr [some 65, some 66, some 67, some 68, some 69]),
  .inr (1, 6, .inl false),
  .inr (1, 6, .inl false),
  .inr (1, 6, .inl false),
  .inl (4, [.inr false, .inr false, .inr false]),
  .inl (4, [.inr false, .inr false, .inr false]),
  .inl (4, [.inr false, .inr false, .inr false]),
  .inl (4, [.inr false, .inr false, .inr false]),
  .inl (1, [.inr false, .inr false, .inr false, .inr false, .inr false]),
  .inl (1, [.inr false, .inr false, .inr false, .inr false, .inr false]),
  .inl (1, [.inr false, .inr false, .inr false, .inr false, .inr false]),
  .inl (1, [.inr false, .inr false, .inr false, .inr false, .inr false]),
  .inl (1, [.inr false, .inr false, .inr false, .inr false, .inr false]),
  .inl (5, [.inl (some 71), .inr false, .inr false]),
  .inr (1, 40, .inl false),
  .inl (5, [.inl (some 73), .inr false, .inr false]),
  .inr (1, 40, .inl false),
  .inl (5, [.inl (some 75), .inr false, .inr false]),
  .inr (1, 40, .inl false),
  .inl (5, [.inl (some 77), .inr false, .inr false]),
  .inr (1, 40, .inl false),
  .inl (9, [.inl (some 79), .inl (some 80), .inl (some 81), .inl (some 82), .inr false, .inl (some 83), .inr false, .inr false, .inr false, .inr false, .inr false, .inr false, .inr false, .inr false, .inr false, .inr true, .inr true, .inr true, .inl (some 84), .inl (some 85), .inl (some 86), .inl (some 87), .inl (some 88), .inr false, .inl (some 89)]),
  .inr (1, 180, .inl false),
  .inr (1, 60, .inl false),
  .inr (3, 2, .inl false),
  .inr (1, 60, .inl false),
  .inr (1, 160, .inl false),
  .inr (1, 155, .inl false),
  .inr (1, 1550, .inl false),
  .inr (1, 4, .inl false),
  .inr (1, 4, .inl false),
  .inr (1, 160, .inl false),
  .inr (1, 60, .inl false)]
/-- .. as they are counted from then on -/
def L0 : List Ly := [.inl (8, [.inl (some 33), .inl (some 1), .inl (some 3), .inl (some 18), .inl (some 34), .inl (some 35), .inl (some 36), .inl (some 37), .inl (some 38), .inr false, .inr false]),
  .inl (6, [.inl (some 2), .inr false, .inr false, .inr false, .inr false, .inr false]),
  .inr (0, 160, .inl false),
  .inl (7, [.inl (some 4), .inl (some 5), .inr false, .inr false, .inr false, .inr false, .inl (some 6), .inl (some 7), .inl (some 8), .inr false]),
  .inr (5, 4, .inr [some 9, some 10, some 11, some 12]),
  .inr (4, 5, .inr [some 13, some 14, some 15, some 16, some 17]),
  .inr (1, 6, .inl false),
  .inr (1, 6, .inl false),
  .inr (1, 6, .inl false),
  .inl (4, [.inr false, .inr false, .inr false]),
  .inl (4, [.inr false, .inr false, .inr false]),
  .inl (4, [.inr false, .inr false, .inr false]),
  .inl (4, [.inr false, .inr false, .inr false]),
  .inl (1, [.inr false, .inr false, .inr false, .inr false, .inr false]),
  .inl (1, [.inr false, .inr false, .inr false, .inr false, .inr false]),
  .inl (1, [.inr false, .inr false, .inr false, .inr false, .inr false]),
  .inl (1, [.inr false, .inr false, .inr false, .inr false, .inr false]),
  .inl (1, [.inr false, .inr false, .inr false, .inr false, .inr false]),
  .inl (7, [.inl (some 19), .inl (some 20), .inr false, .inr false, .inr false, .inr false, .inl (some 21), .inl (some 22), .inl (some 23), .inr false]),
  .inr (5, 4, .inr [some 24, some 25, some 26, some 27]),
  .inr (4, 5, .inr [some 28, some 29, some 30, some 31, some 32]),
  .inr (1, 6, .inl false),
  .inr (1, 6, .inl false),
  .inr (1, 6, .inl false),
  .inl (4, [.inr false, .inr false, .inr false]),
  .inl (4, [.inr false, .inr false, .inr false]),
  .inl (4, [.inr false, .inr false, .inr false]),
  .inl (4, [.inr false, .inr false, .inr false]),
  .inl (1, [.inr false, .inr false, .inr false, .inr false, .inr false]),
  .inl (1, [.inr false, .inr false, .inr false, .inr false, .inr false]),
  .inl (1, [.inr false, .inr false, .inr false, .inr false, .inr false]),
  .inl (1, [.inr false, .inr false, .inr false, .inr false, .inr false]),
  .inl (1, [.inr false, .inr false, .inr false, .inr false, .inr false]),
  .inl (3, [.inl (some 1), .inr false, .inr false, .inr false]),
  .inr (7, 2, .inr [some 40, some 55]),
  .inr (3, 2, .inl false),
  .inr (6, 4, .inr [some 70, some 72, some 74, some 76]),
  .inl (0, [.inr false, .inr false]),
  .inl (2, [.inl (some 39)]),
  .inr (2, 9, .inl true),
  .inl (7, [.inl (some 41), .inl (some 42), .inr false, .inr false, .inr false, .inr false, .inl (some 43), .inl (some 44), .inl (some 45), .inr false]),
  .inr (5, 4, .inr [some 46, some 47, some 48, some 49]),
  .inr (4, 5, .inr [some 50, some 51, some 52, some 53, some 54]),
  .inr (1, 6, .inl false),
  .inr (1, 6, .inl false),
  .inr (1, 6, .inl false),
  .inl (4, [.inr false, .inr false, .inr false]),
  .inl (4, [.inr false, .inr false, .inr false]),
  .inl (4, [.inr false, .inr false, .inr false]),
  .inl (4, [.inr false, .inr false, .inr false]),
  .inl (1, [.inr false, .inr false, .inr false, .inr false, .inr false]),
  .inl (1, [.inr false, .inr false, .inr false, .inr false, .inr false]),
  .inl (1, [.inr false, .inr false, .inr false, .inr false, .inr false]),
  .inl (1, [.inr false, .inr false, .inr false, .inr false, .inr false]),
  .inl (1, [.inr false, .inr false, .inr false, .inr false, .inr false]),
  .inl (7, [.inl (some 56), .inl (some 57), .inr false, .inr false, .inr false, .inr false, .inl (some 58), .inl (some 59), .inl (some 60), .inr false]),
  .inr (5, 4, .inr [some 61, some 62, some 63, some 64]),
  .inr (4, 5, .inr [some 65, some 66, some 67, some 68, some 69]),
  .inr (1, 6, .inl false),
  .inr (1, 6, .inl false),
  .inr (1, 6, .inl false),
  .inl (4, [.inr false, .inr false, .inr false]),
  .inl (4, [.inr false, .inr false, .inr false]),
  .inl (4, [.inr false, .inr false, .inr false]),
  .inl (4, [.inr false, .inr false, .inr false]),
  .inl (1, [.inr false, .inr false, .inr false, .inr false, .inr false]),
  .inl (1, [.inr false, .inr false, .inr false, .inr false, .inr false]),
  .inl (1, [.inr false, .inr false, .inr false, .inr false, .inr false]),
  .inl (1, [.inr false, .inr false, .inr false, .inr false, .inr false]),
  .inl (1, [.inr false, .inr false, .inr false, .inr false, .inr false]),
  .inl (5, [.inl (some 71), .inr false, .inr false]),
  .inr (1, 40, .inl false),
  .inl (5, [.inl (some 73), .inr false, .inr false]),
  .inr (1, 40, .inl false),
  .inl (5, [.inl (some 75), .inr false, .inr false]),
  .inr (1, 40, .inl false),
  .inl (5, [.inl (some 77), .inr false, .inr false]),
  .inr (1, 40, .inl false),
  .inl (9, [.inl (some 79), .inl (some 80), .inl (some 81), .inl (some 82), .inr false, .inl (some 83), .inr false, .inr false, .inr false, .inr false, .inr false, .inr false, .inr false, .inr false, .inr false, .inr true, .inr true, .inr true, .inl (some 84), .inl (some 85), .inl (some 86), .inl (some 87), .inl (some 88), .inr false, .inl (some 89)]),
  .inr (1, 180, .inl false),
  .inr (1, 60, .inl false),
  .inr (3, 2, .inl false),
  .inr (1, 60, .inl false),
  .inr (1, 160, .inl false),
  .inr (1, 155, .inl false),
  .inr (1, 1550, .inl false),
  .inr (1, 4, .inl false),
  .inr (1, 4, .inl false),
  .inr (1, 160, .inl false),
  .inr (1, 60, .inl false)]
def dz : Dt := (fun _ _ => 0, fun _ _ => 0)
def chain0 : Option (List Ly × Dt) := Option.bind (nwO [] dz 8) fun z1 => Option.bind (f_X8_init z1.1 z1.2 0) fun z2 => Option.bind (nwO z2.1 z2.2 9) fun z3 => f_X9_init z3.1 z3.2 78
def d0c : Dt := (chain0.getD ([], dz)).2
def d00 : Dt := (fun a => d0c.1 (pm a), fun a => d0c.2 (pm a))
set_option maxRecDepth 100000 in
theorem chain0_some : chain0.isSome = true := by decide +kernel
def eqF : (Option Nat ⊕ Bool) → (Option Nat ⊕ Bool) → Bool
  | .inl a, .inl b => decide (a = b)
  | .inr a, .inr b => decide (a = b)
  | _, _ => false
theorem eqF_ok {a b : Option Nat ⊕ Bool} (h : eqF a b = true) : a = b := by
  rcases a with a | a <;> rcases b with b | b <;> simp [eqF] at h <;> rw [h]
def eqFs : List (Option Nat ⊕ Bool) → List (Option Nat ⊕ Bool) → Bool
  | [], [] => true
  | a :: l, b :: r => eqF a b && eqFs l r
  | _, _ => false
theorem eqFs_ok : ∀ {a b : List (Option Nat ⊕ Bool)}, eqFs a b = true → a = b
  | [], [], _ => rfl
  | a :: l, b :: r, h => by
    simp only [eqFs, Bool.and_eq_true] at h
    rw [eqF_ok h.1, eqFs_ok h.2]
  | [], _ :: _, h => by simp [eqFs] at h
  | _ :: _, [], h => by simp [eqFs] at h
def eqL : Ly → Ly → Bool
  | .inl (a, l), .inl (b, r) => decide (a = b) && eqFs l r
  | .inr (a, n, .inl x), .inr (b, k, .inl y) => decide (a = b) && decide (n = k) && decide (x = y)
  | .inr (a, n, .inr x), .inr (b, k, .inr y) => decide (a = b) && decide (n = k) && decide (x = y)
  | _, _ => false
theorem eqL_ok {a b : Ly} (h : eqL a b = true) : a = b := by
  rcases a with ⟨a, l⟩ | ⟨a, n, x | x⟩ <;> rcases b with ⟨b, r⟩ | ⟨b, k, y | y⟩ <;> simp [eqL] at h
  · rw [h.1, eqFs_ok h.2]
  · rw [h.1.1, h.1.2, h.2]
  · rw [h.1.1, h.1.2, h.2]
def eqLs : List Ly → List Ly → Bool
  | [], [] => true
  | a :: l, b :: r => eqL a b && eqLs l r
  | _, _ => false
theorem eqLs_ok : ∀ {a b : List Ly}, eqLs a b = true → a = b
  | [], [], _ => rfl
  | a :: l, b :: r, h => by
    simp only [eqLs, Bool.and_eq_true] at h
    rw [eqL_ok h.1, eqLs_ok h.2]
  | [], _ :: _, h => by simp [eqLs] at h
  | _ :: _, [], h => by simp [eqLs] at h
set_option maxRecDepth 100000 in
theorem chain0_L : (chain0.getD ([], dz)).1 = L0c := eqLs_ok (by decide +kernel)
theorem chain0_eq : chain0 = some (L0c, d0c) := by
  cases h : chain0 with
  | none => have := chain0_some; rw [h] at this; cases this
  | some z =>
    have h1 := chain0_L
    have h2 : d0c = z.2 := by unfold d0c; rw [h]; rfl
    rw [h] at h1
    have h3 : z.1 = L0c := h1
    rw [h2, ← h3]
theorem chain0_steps : ∃ z1 z2 z3 : List Ly × Dt, nwO [] dz 8 = some z1 ∧ f_X8_init z1.1 z1.2 0 = some z2 ∧ nwO z2.1 z2.2 9 = some z3 ∧ f_X9_init z3.1 z3.2 78 = some (L0c, d0c) := by
  have h := chain0_eq
  unfold chain0 at h
  obtain ⟨z1, h1, h⟩ := ob h
  obtain ⟨z2, h2, h⟩ := ob h
  obtain ⟨z3, h3, h⟩ := ob h
  exact ⟨z1, z2, z3, h1, h2, h3, h⟩
def rnF : (Option Nat ⊕ Bool) → (Option Nat ⊕ Bool)
  | .inl r => .inl (r.map pn)
  | .inr z => .inr z
def rnL : Ly → Ly
  | .inl o => .inl (o.1, o.2.map rnF)
  | .inr (t, n, .inl z) => .inr (t, n, .inl z)
  | .inr (t, n, .inr l) => .inr (t, n, .inr (l.map (Option.map pn)))
def eqO : Option Ly → Option Ly → Bool
  | some a, some b => eqL a b
  | none, none => true
  | _, _ => false
set_option maxRecDepth 100000 in
theorem L0_pm : ∀ q, q < 90 → eqO (L0[q]?) ((L0c[pm q]?).map rnL) = true := by decide +kernel
theorem L0_rn : ∀ (q : Nat) (x' : Ly), L0[q]? = some x' → ∃ x, L0c[pm q]? = some x ∧ x' = rnL x := by
  intro q x' h
  have hq : q < 90 := (List.getElem?_eq_some_iff.mp h).1
  have := L0_pm q hq
  rw [h] at this
  cases hx : L0c[pm q]? with
  | none => rw [hx] at this; cases this
  | some x =>
    rw [hx] at this
    exact ⟨x, rfl, eqL_ok this⟩
