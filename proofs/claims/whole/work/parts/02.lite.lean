/-! ===== the light layer: cells by places, data apart from the make of the cells ===== -/
/-- a cell's make: an object (its class, its fields: a reference, an int, a long) or an array (its type, its length; ints, longs, references) -/
abbrev Ly : Type := (Nat × List (Option Nat ⊕ Bool)) ⊕ (Nat × Nat × (Bool ⊕ List (Option Nat)))
/-- the numbers in the cells: ints (booleans, bytes) and longs, by place and slot -/
abbrev Dt : Type := (Nat → Nat → Int32) × (Nat → Nat → Int64)
/-- classes, array classes, the first address, the strings' addresses -/
abbrev Cx : Type := va_G × (Nat → ClassId) × (Nat × Bool) × (Nat → Nat) × (Nat → Nat)
/-- where the cell of a place lies behind the first address: while they are made, in the order of their making; then the reader, which is made first, is counted behind the two worlds -/
def pm (q : Nat) : Nat := if q = 0 ∨ 34 ≤ q then q else if q = 33 then 1 else q + 1
def pn (z : Nat) : Nat := if z = 0 ∨ 34 ≤ z then z else if z = 1 then 33 else z - 1
theorem pm_pn (z : Nat) : pm (pn z) = z := by
  unfold pn pm
  by_cases h1 : z = 0 ∨ 34 ≤ z
  · rw [if_pos h1, if_pos h1]
  · rw [if_neg h1]
    by_cases h2 : z = 1
    · subst h2; rfl
    · rw [if_neg h2, if_neg (by omega), if_neg (by omega)]; omega
theorem pn_pm (z : Nat) : pn (pm z) = z := by
  unfold pm pn
  by_cases h1 : z = 0 ∨ 34 ≤ z
  · rw [if_pos h1, if_pos h1]
  · rw [if_neg h1]
    by_cases h2 : z = 33
    · subst h2; rfl
    · rw [if_neg h2, if_neg (by omega), if_neg (by omega)]; omega
def ad (b : Nat × Bool) (q : Nat) : Nat := b.1 + (if b.2 = true then pm q else q)
theorem ad_f {b : Nat × Bool} (h : b.2 = false) (q : Nat) : ad b q = b.1 + q := by unfold ad; rw [h, if_neg (by decide)]
theorem ad_le (b : Nat × Bool) (q : Nat) : b.1 ≤ ad b q := Nat.le_add_right _ _
theorem ad_inj {b : Nat × Bool} {i j : Nat} (h : ad b i = ad b j) : i = j := by
  unfold ad at h
  have h := Nat.add_left_cancel h
  by_cases hb : b.2 = true
  · rw [if_pos hb, if_pos hb] at h
    rw [← pn_pm i, ← pn_pm j, h]
  · rw [if_neg hb, if_neg hb] at h
    exact h
/-- the heap's size while cells are made -/
def Sz (b : Nat × Bool) (n N : Nat) : Prop := n = b.1 + N ∧ b.2 = false
def tyA : Nat → FieldType := fun k => match k with
  | 0 => .byte
  | 1 => .int
  | 2 => .long
  | 3 => .boolean
  | 4 => .object "SeasonBound$Child"
  | 5 => .object "SeasonBound$Season"
  | 6 => .object "SeasonBound$Sheet"
  | _ => .object "SeasonBound$World"
def tysA (cA : Nat → ClassId) : List (ClassId × FieldType) := [(cA 0, tyA 0), (cA 1, tyA 1), (cA 2, tyA 2), (cA 3, tyA 3), (cA 4, tyA 4), (cA 5, tyA 5), (cA 6, tyA 6), (cA 7, tyA 7)]
theorem tysA_at (cA : Nat → ClassId) (t : Nat) (h : t < 8) : (tysA cA)[t]? = some (cA t, tyA t) := by
  match t, h with
  | 0, _ => rfl
  | 1, _ => rfl
  | 2, _ => rfl
  | 3, _ => rfl
  | 4, _ => rfl
  | 5, _ => rfl
  | 6, _ => rfl
  | 7, _ => rfl
  | t + 8, h => omega
def fvL (b : Nat × Bool) (d : Dt) (q k : Nat) : (Option Nat ⊕ Bool) → Value
  | .inl r => va_rf (r.map (fun z => ad b z))
  | .inr false => .int (d.1 q k)
  | .inr true => .long (d.2 q k)
def cellL (cA : Nat → ClassId) (b : Nat × Bool) (d : Dt) (q : Nat) : Ly → va_E
  | .inl o => .inr (o.1, o.2.mapIdx (fun k x => fvL b d q k x))
  | .inr (t, n, .inl false) => .inl (cA t, n, .inl (d.1 q))
  | .inr (t, n, .inl true) => .inl (cA t, n, .inr (.inl (d.2 q)))
  | .inr (t, n, .inr l) => .inl (cA t, n, .inr (.inr (.inr (.inr (fun j => (l.getD j none).map (fun z => ad b z))))))
def wsL (cA : Nat → ClassId) (b : Nat × Bool) (Λ : List Ly) (d : Dt) : va_W := Λ.mapIdx (fun q x => (ad b q, cellL cA b d q x))
theorem wsL_at {cA : Nat → ClassId} {b : Nat × Bool} {Λ : List Ly} {d : Dt} {q : Nat} {x : Ly} (h : Λ[q]? = some x) : (wsL cA b Λ d)[q]? = some (ad b q, cellL cA b d q x) := by
  unfold wsL
  rw [List.getElem?_mapIdx, h]
  rfl
theorem wsL_inv {cA : Nat → ClassId} {b : Nat × Bool} {Λ : List Ly} {d : Dt} {q : Nat} {y : Nat × va_E} (h : (wsL cA b Λ d)[q]? = some y) : ∃ x, Λ[q]? = some x ∧ y = (ad b q, cellL cA b d q x) := by
  unfold wsL at h
  rw [List.getElem?_mapIdx] at h
  cases hx : Λ[q]? with
  | none => rw [hx] at h; cases h
  | some x => rw [hx] at h; exact ⟨x, rfl, (Option.some.inj h).symm⟩
theorem cellL_congr {cA : Nat → ClassId} {b : Nat × Bool} {d d' : Dt} {q : Nat} (h1 : d'.1 q = d.1 q) (h2 : d'.2 q = d.2 q) (x : Ly) : cellL cA b d' q x = cellL cA b d q x := by
  have hf : ∀ k y, fvL b d' q k y = fvL b d q k y := by
    intro k y
    rcases y with r | z
    · rfl
    · cases z
      · show Value.int (d'.1 q k) = Value.int (d.1 q k)
        rw [h1]
      · show Value.long (d'.2 q k) = Value.long (d.2 q k)
        rw [h2]
  rcases x with o | ⟨t, n, z | l⟩
  · simp [cellL, hf]
  · cases z
    · simp [cellL, h1]
    · simp [cellL, h2]
  · rfl
theorem wsL_set {cA : Nat → ClassId} {b : Nat × Bool} {Λ : List Ly} {d d' : Dt} {q : Nat} {x : Ly} (hx : Λ[q]? = some x) (h1 : ∀ a, a ≠ q → d'.1 a = d.1 a) (h2 : ∀ a, a ≠ q → d'.2 a = d.2 a) : (wsL cA b Λ d).set q (ad b q, cellL cA b d' q x) = wsL cA b Λ d' := by
  apply List.ext_getElem?
  intro i
  unfold wsL
  rw [List.getElem?_set, List.length_mapIdx, List.getElem?_mapIdx, List.getElem?_mapIdx]
  by_cases hi : q = i
  · subst hi
    have hl : q < Λ.length := (List.getElem?_eq_some_iff.mp hx).1
    rw [if_pos rfl, if_pos hl, hx]
    rfl
  · rw [if_neg hi]
    cases Λ[i]? with
    | none => rfl
    | some y =>
      show some (ad b i, cellL cA b d i y) = some (ad b i, cellL cA b d' i y)
      rw [cellL_congr (h1 i (fun h => hi h.symm)) (h2 i (fun h => hi h.symm))]
theorem wsL_D {cA : Nat → ClassId} {b : Nat × Bool} {Λ : List Ly} {d : Dt} : va_D (fun q => b.1 ≤ q) (wsL cA b Λ d) := by
  refine ⟨?_, ?_⟩
  · intro i j x y hx hy e
    obtain ⟨_, _, rfl⟩ := wsL_inv hx
    obtain ⟨_, _, rfl⟩ := wsL_inv hy
    exact ad_inj e
  · intro k y hy
    obtain ⟨_, _, rfl⟩ := wsL_inv hy
    exact ad_le _ _
/-! what a function reads -/
abbrev inb (i : Int32) (n : Nat) : Prop := ¬ (i < 0 ∨ n ≤ i.toNatClampNeg)
def clsAt (Λ : List Ly) (q : Nat) : Option Nat := match Λ[q]? with
  | some (.inl o) => some o.1
  | _ => none
def rf (Λ : List Ly) (q ci k : Nat) : Option Nat := match Λ[q]? with
  | some (.inl o) => if o.1 = ci then (match o.2[k]? with
    | some (.inl r) => r
    | _ => none) else none
  | _ => none
def okA (Λ : List Ly) (q ti : Nat) (i : Int32) : Bool := match Λ[q]? with
  | some (.inr (t, n, .inl false)) => t == ti && decide (inb i n)
  | _ => false
def okL (Λ : List Ly) (q : Nat) (i : Int32) : Bool := match Λ[q]? with
  | some (.inr (t, n, .inl true)) => t == 2 && decide (inb i n)
  | _ => false
def ra (Λ : List Ly) (q ti : Nat) (i : Int32) : Option Nat := match Λ[q]? with
  | some (.inr (t, n, .inr l)) => if t = ti ∧ inb i n then l.getD i.toNatClampNeg none else none
  | _ => none
def aLn (Λ : List Ly) (q ti : Nat) : Option Nat := match Λ[q]? with
  | some (.inr (t, n, _)) => if t = ti then some n else none
  | _ => none
theorem clsAt_spec {Λ : List Ly} {q ci : Nat} (h : clsAt Λ q = some ci) : ∃ fs, Λ[q]? = some (.inl (ci, fs)) := by
  unfold clsAt at h
  split at h
  · rename_i o ho
    cases h
    exact ⟨o.2, ho⟩
  · cases h
theorem rf_spec {Λ : List Ly} {q ci k r : Nat} (h : rf Λ q ci k = some r) : ∃ fs, Λ[q]? = some (.inl (ci, fs)) ∧ fs[k]? = some (.inl (some r)) := by
  unfold rf at h
  split at h
  · rename_i o ho
    split at h
    · rename_i hc
      split at h
      · rename_i r' hr
        subst h
        subst hc
        exact ⟨o.2, ho, hr⟩
      · cases h
    · cases h
  · cases h
theorem okA_spec {Λ : List Ly} {q ti : Nat} {i : Int32} (h : okA Λ q ti i = true) : ∃ n, Λ[q]? = some (.inr (ti, n, .inl false)) ∧ inb i n := by
  unfold okA at h
  split at h
  · rename_i t n ho
    simp only [Bool.and_eq_true, beq_iff_eq, decide_eq_true_eq] at h
    obtain ⟨rfl, h⟩ := h
    exact ⟨n, ho, h⟩
  · cases h
theorem okL_spec {Λ : List Ly} {q : Nat} {i : Int32} (h : okL Λ q i = true) : ∃ n, Λ[q]? = some (.inr (2, n, .inl true)) ∧ inb i n := by
  unfold okL at h
  split at h
  · rename_i t n ho
    simp only [Bool.and_eq_true, beq_iff_eq, decide_eq_true_eq] at h
    obtain ⟨rfl, h⟩ := h
    exact ⟨n, ho, h⟩
  · cases h
theorem ra_spec {Λ : List Ly} {q ti r : Nat} {i : Int32} (h : ra Λ q ti i = some r) : ∃ n l, Λ[q]? = some (.inr (ti, n, .inr l)) ∧ inb i n ∧ l.getD i.toNatClampNeg none = some r := by
  unfold ra at h
  split at h
  · rename_i t n l ho
    split at h
    · rename_i hc
      obtain ⟨rfl, hc⟩ := hc
      exact ⟨n, l, ho, hc, h⟩
    · cases h
  · cases h
theorem aLn_spec {Λ : List Ly} {q ti n : Nat} (h : aLn Λ q ti = some n) : ∃ z, Λ[q]? = some (.inr (ti, n, z)) := by
  unfold aLn at h
  split at h
  · rename_i t n' z ho
    split at h
    · rename_i hc
      subst hc
      cases h
      exact ⟨z, ho⟩
    · cases h
  · cases h
/-! what a function writes -/
def pI (d : Dt) (q k : Nat) (v : Int32) : Dt := (fun a => if a = q then upd (d.1 q) k v else d.1 a, d.2)
def pJ (d : Dt) (q k : Nat) (v : Int64) : Dt := (d.1, fun a => if a = q then vp_updL (d.2 q) k v else d.2 a)
theorem pI_self {d : Dt} {q k : Nat} {v : Int32} : (pI d q k v).1 q = upd (d.1 q) k v := by simp [pI]
theorem pI_ne {d : Dt} {q k : Nat} {v : Int32} {a : Nat} (h : a ≠ q) : (pI d q k v).1 a = d.1 a := by simp [pI, h]
theorem pJ_self {d : Dt} {q k : Nat} {v : Int64} : (pJ d q k v).2 q = vp_updL (d.2 q) k v := by simp [pJ]
theorem pJ_ne {d : Dt} {q k : Nat} {v : Int64} {a : Nat} (h : a ≠ q) : (pJ d q k v).2 a = d.2 a := by simp [pJ, h]
theorem cellL_pI {cA : Nat → ClassId} {b : Nat × Bool} {d : Dt} {q ci k : Nat} {fs : List (Option Nat ⊕ Bool)} {v : Int32} (hk : fs[k]? = some (.inr false)) : cellL cA b (pI d q k v) q (.inl (ci, fs)) = .inr (ci, (fs.mapIdx (fun k x => fvL b d q k x)).set k (.int v)) := by
  show Sum.inr (ci, fs.mapIdx (fun k' x => fvL b (pI d q k v) q k' x)) = _
  congr 2
  apply List.ext_getElem?
  intro i
  rw [List.getElem?_set, List.length_mapIdx, List.getElem?_mapIdx, List.getElem?_mapIdx]
  have hl : k < fs.length := (List.getElem?_eq_some_iff.mp hk).1
  by_cases hi : k = i
  · subst hi
    rw [if_pos rfl, if_pos hl, hk]
    show some (Value.int ((pI d q k v).1 q k)) = _
    rw [pI_self]
    simp [upd]
  · rw [if_neg hi]
    cases fs[i]? with
    | none => rfl
    | some y =>
      show some (fvL b (pI d q k v) q i y) = some (fvL b d q i y)
      rcases y with r | z
      · rfl
      · cases z
        · show some (Value.int ((pI d q k v).1 q i)) = some (Value.int (d.1 q i))
          rw [pI_self]
          have : i ≠ k := fun h => hi h.symm
          simp [upd, this]
        · rfl
theorem cellL_pJ {cA : Nat → ClassId} {b : Nat × Bool} {d : Dt} {q ci k : Nat} {fs : List (Option Nat ⊕ Bool)} {v : Int64} (hk : fs[k]? = some (.inr true)) : cellL cA b (pJ d q k v) q (.inl (ci, fs)) = .inr (ci, (fs.mapIdx (fun k x => fvL b d q k x)).set k (.long v)) := by
  show Sum.inr (ci, fs.mapIdx (fun k' x => fvL b (pJ d q k v) q k' x)) = _
  congr 2
  apply List.ext_getElem?
  intro i
  rw [List.getElem?_set, List.length_mapIdx, List.getElem?_mapIdx, List.getElem?_mapIdx]
  have hl : k < fs.length := (List.getElem?_eq_some_iff.mp hk).1
  by_cases hi : k = i
  · subst hi
    rw [if_pos rfl, if_pos hl, hk]
    show some (Value.long ((pJ d q k v).2 q k)) = _
    rw [pJ_self]
    simp [vp_updL]
  · rw [if_neg hi]
    cases fs[i]? with
    | none => rfl
    | some y =>
      show some (fvL b (pJ d q k v) q i y) = some (fvL b d q i y)
      rcases y with r | z
      · rfl
      · cases z
        · rfl
        · show some (Value.long ((pJ d q k v).2 q i)) = some (Value.long (d.2 q i))
          rw [pJ_self]
          have : i ≠ k := fun h => hi h.symm
          simp [vp_updL, this]
/-! the fields' kinds by class -/
def kdF : (Option Nat ⊕ Bool) → Nat
  | .inl _ => 0
  | .inr false => 1
  | .inr true => 2
def shp : Nat → List Nat := fun k => match k with
  | 0 => [1, 1]
  | 1 => [1, 1, 1, 1, 1]
  | 2 => [0]
  | 3 => [0, 1, 1, 1]
  | 4 => [1, 1, 1]
  | 5 => [0, 1, 1]
  | 6 => [0, 1, 1, 1, 1, 1]
  | 7 => [0, 0, 1, 1, 1, 1, 0, 0, 0, 1]
  | 8 => [0, 0, 0, 0, 0, 0, 0, 0, 0, 1, 1]
  | _ => [0, 0, 0, 0, 1, 0, 1, 1, 1, 1, 1, 1, 1, 1, 1, 2, 2, 2, 0, 0, 0, 0, 0, 1, 0]
def nestT : List (String × Nat × MethodName × String) := [("SeasonBound", 9, (⟨"SeasonBound$Reader", "<init>", "()V"⟩ : MethodName), "SeasonBound"),
  ("SeasonBound", 47, (⟨"SeasonBound$Best", "<init>", "()V"⟩ : MethodName), "SeasonBound"),
  ("SeasonBound", 54, (⟨"SeasonBound$Odds", "<init>", "()V"⟩ : MethodName), "SeasonBound"),
  ("SeasonBound", 59, (⟨"SeasonBound$Sheet", "<init>", "()V"⟩ : MethodName), "SeasonBound"),
  ("SeasonBound$Child", 38, (⟨"SeasonBound", "learns", "(II)I"⟩ : MethodName), "SeasonBound"),
  ("SeasonBound$Child", 44, (⟨"SeasonBound", "raised", "(III)I"⟩ : MethodName), "SeasonBound"),
  ("SeasonBound$Odds", 27, (⟨"SeasonBound", "within", "(III)Z"⟩ : MethodName), "SeasonBound"),
  ("SeasonBound$Reader", 11, (⟨"SeasonBound$Tape", "<init>", "()V"⟩ : MethodName), "SeasonBound"),
  ("SeasonBound$Reader", 114, (⟨"SeasonBound", "isSeason", "(I)Z"⟩ : MethodName), "SeasonBound"),
  ("SeasonBound$Reader", 125, (⟨"SeasonBound", "within", "(III)Z"⟩ : MethodName), "SeasonBound"),
  ("SeasonBound$Sheet", 32, (⟨"SeasonBound", "within", "(III)Z"⟩ : MethodName), "SeasonBound"),
  ("SeasonBound$World", 33, (⟨"SeasonBound$Season", "<init>", "()V"⟩ : MethodName), "SeasonBound"),
  ("SeasonBound$World", 34, (⟨"SeasonBound$Child", "<init>", "()V"⟩ : MethodName), "SeasonBound"),
  ("SeasonBound$World", 68, (⟨"SeasonBound", "within", "(III)Z"⟩ : MethodName), "SeasonBound"),
  ("SeasonBound$World", 79, (⟨"SeasonBound", "isSeason", "(I)Z"⟩ : MethodName), "SeasonBound"),
  ("SeasonBound$World", 132, (⟨"SeasonBound", "learns", "(II)I"⟩ : MethodName), "SeasonBound"),
  ("SeasonBound$World", 138, (⟨"SeasonBound", "raised", "(III)I"⟩ : MethodName), "SeasonBound")]
def strI : List Nat := [73, 75, 77, 79, 81, 83, 85, 87]
def strX : List String := ["spring", "summer", "autumn", "winter", "plain", "quick", "slow", "orphan"]
def strN : List Nat := [6, 6, 6, 6, 5, 5, 4, 6]
def strB : List (List Int32) := [[115, 112, 114, 105, 110, 103], [115, 117, 109, 109, 101, 114], [97, 117, 116, 117, 109, 110], [119, 105, 110, 116, 101, 114], [112, 108, 97, 105, 110], [113, 117, 105, 99, 107], [115, 108, 111, 119], [111, 114, 112, 104, 97, 110]]
