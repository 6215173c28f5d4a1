/-! ===== ask: counting alike skills ===== -/
def cG (fit : Nat → Bool) (val : Nat → Nat) (a : Nat) : Nat → Nat
  | 0 => 0
  | n + 1 => cG fit val a n + (if fit n = true ∧ val n = a then 1 else 0)
def rk (fit : Nat → Bool) : Nat → Nat
  | 0 => 0
  | n + 1 => rk fit n + (if fit n = true then 1 else 0)
/-- B is the most that are alike among the first n -/
def BM (fit : Nat → Bool) (val : Nat → Nat) (n B : Nat) : Prop := (∀ i, i < n → fit i = true → cG fit val (val i) n ≤ B) ∧ (B = 0 ∨ ∃ i, i < n ∧ fit i = true ∧ cG fit val (val i) n = B)
theorem cG_pos {fit : Nat → Bool} {val : Nat → Nat} : ∀ (n i : Nat), i < n → fit i = true → 0 < cG fit val (val i) n := by
  intro n
  induction n with
  | zero => intro i h; omega
  | succ n ih =>
    intro i h hf
    show 0 < cG fit val (val i) n + _
    by_cases e : i = n
    · subst e; rw [if_pos ⟨hf, rfl⟩]; omega
    · have := ih i (by omega) hf; omega
theorem BM.uniq {fit : Nat → Bool} {val : Nat → Nat} {n B B' : Nat} (h : BM fit val n B) (h' : BM fit val n B') : B = B' := by
  obtain ⟨a1, a2⟩ := h
  obtain ⟨b1, b2⟩ := h'
  rcases a2 with a2 | ⟨i, i1, i2, i3⟩
  · rcases b2 with b2 | ⟨j, j1, j2, j3⟩
    · rw [a2, b2]
    · have := a1 j j1 j2
      have := cG_pos (val := val) n j j1 j2
      omega
  · rcases b2 with b2 | ⟨j, j1, j2, j3⟩
    · have := b1 i i1 i2
      have := cG_pos (val := val) n i i1 i2
      omega
    · have := a1 j j1 j2
      have := b1 i i1 i2
      omega
theorem cG_none {fit : Nat → Bool} {val : Nat → Nat} {a : Nat} : ∀ n, (∀ i, i < n → fit i = true → val i ≠ a) → cG fit val a n = 0 := by
  intro n
  induction n with
  | zero => intro _; rfl
  | succ n ih =>
    intro h
    show cG fit val a n + _ = 0
    rw [ih (fun i hi => h i (by omega)), if_neg (fun q => h n (by omega) q.1 q.2)]
theorem cG_all {fit : Nat → Bool} {val : Nat → Nat} {a : Nat} (h : ∀ i, val i = a) : ∀ n, cG fit val a n = rk fit n := by
  intro n
  induction n with
  | zero => rfl
  | succ n ih =>
    show cG fit val a n + _ = rk fit n + _
    rw [ih]
    by_cases hf : fit n = true
    · rw [if_pos hf, if_pos ⟨hf, h n⟩]
    · rw [if_neg hf, if_neg (fun q => hf q.1)]
def mcG (fit : Nat → Bool) (val : Nat → Nat) (n : Nat) : Nat := fo (fun m i => if fit i = true then (if cG fit val (val i) n ≤ m then m else cG fit val (val i) n) else m) n 0 0
theorem mcG_fo {fit : Nat → Bool} {val : Nat → Nat} {n : Nat} : ∀ (k c m : Nat), c + k ≤ n → (m = 0 ∨ ∃ i, i < n ∧ fit i = true ∧ cG fit val (val i) n = m) → (∀ i, i < c → fit i = true → cG fit val (val i) n ≤ m) → (fo (fun m i => if fit i = true then (if cG fit val (val i) n ≤ m then m else cG fit val (val i) n) else m) k c m = 0 ∨ ∃ i, i < n ∧ fit i = true ∧ cG fit val (val i) n = fo (fun m i => if fit i = true then (if cG fit val (val i) n ≤ m then m else cG fit val (val i) n) else m) k c m) ∧ (∀ i, i < c + k → fit i = true → cG fit val (val i) n ≤ fo (fun m i => if fit i = true then (if cG fit val (val i) n ≤ m then m else cG fit val (val i) n) else m) k c m) := by
  intro k
  induction k with
  | zero => intro c m _ h1 h2; exact ⟨h1, h2⟩
  | succ k ih =>
    intro c m hck h1 h2
    have key := ih (c + 1) (if fit c = true then (if cG fit val (val c) n ≤ m then m else cG fit val (val c) n) else m) (by omega) (by
      split
      · rename_i hf
        split
        · exact h1
        · exact Or.inr ⟨c, by omega, hf, rfl⟩
      · exact h1) (by
      intro i hi hf
      by_cases e : i = c
      · subst e
        rw [if_pos hf]
        split <;> omega
      · have := h2 i (by omega) hf
        split
        · split <;> omega
        · exact this)
    rw [show c + (k + 1) = c + 1 + k by omega]
    exact key
theorem mcG_BM (fit : Nat → Bool) (val : Nat → Nat) (n : Nat) : BM fit val n (mcG fit val n) := by
  obtain ⟨a, b⟩ := mcG_fo (fit := fit) (val := val) (n := n) n 0 0 (by omega) (Or.inl rfl) (fun i hi => by omega)
  exact ⟨fun i hi hf => b i (by omega) hf, a⟩
/-- the class's walk over the gifts: best, run, last -/
def RLn (fit : Nat → Bool) (val : Nat → Nat) (n : Nat) (run : Nat) (last : Int32) : Prop := ((∀ i, i < n → ¬ fit i = true) ∧ run = 0 ∧ last = -4) ∨ ∃ l, l < n ∧ fit l = true ∧ (∀ i, l < i → i < n → ¬ fit i = true) ∧ run = cG fit val (val l) n ∧ last = nI (val l)
theorem walk_skip {fit : Nat → Bool} {val : Nat → Nat} {n B run : Nat} {last : Int32} (hB : BM fit val n B) (hR : RLn fit val n run last) (hf : ¬ fit n = true) : BM fit val (n + 1) B ∧ RLn fit val (n + 1) run last := by
  have ec : ∀ a, cG fit val a (n + 1) = cG fit val a n := fun a => by show cG fit val a n + _ = _; rw [if_neg (fun q => hf q.1)]; omega
  refine ⟨⟨fun i hi hfi => ?_, ?_⟩, ?_⟩
  · rw [ec]
    by_cases e : i = n
    · subst e; exact absurd hfi hf
    · exact hB.1 i (by omega) hfi
  · rcases hB.2 with h | ⟨i, i1, i2, i3⟩
    · exact Or.inl h
    · exact Or.inr ⟨i, by omega, i2, by rw [ec]; exact i3⟩
  · rcases hR with ⟨h1, h2, h3⟩ | ⟨l, l1, l2, l3, l4, l5⟩
    · refine Or.inl ⟨fun i hi => ?_, h2, h3⟩
      by_cases e : i = n
      · subst e; exact hf
      · exact h1 i (by omega)
    · refine Or.inr ⟨l, by omega, l2, fun i a b => ?_, by rw [ec]; exact l4, l5⟩
      by_cases e : i = n
      · subst e; exact hf
      · exact l3 i a (by omega)
theorem walk_same {fit : Nat → Bool} {val : Nat → Nat} {n B run : Nat} {last : Int32} (hv : ∀ i, val i < 2 ^ 31) (hB : BM fit val n B) (hR : RLn fit val n run last) (hf : fit n = true) (he : nI (val n) = last) : BM fit val (n + 1) (max B (run + 1)) ∧ RLn fit val (n + 1) (run + 1) (nI (val n)) := by
  have es : ∀ a, cG fit val a (n + 1) = cG fit val a n + (if fit n = true ∧ val n = a then 1 else 0) := fun a => rfl
  rcases hR with ⟨h1, h2, h3⟩ | ⟨l, l1, l2, l3, l4, l5⟩
  · rw [h3] at he
    exact absurd he (nI_ne4 (hv n))
  · have hvl : val n = val l := nI_inj (hv n) (hv l) (he.trans l5)
    have hrun : run + 1 = cG fit val (val n) (n + 1) := by rw [es, if_pos ⟨hf, rfl⟩, hvl, l4]
    refine ⟨⟨fun i hi hfi => ?_, ?_⟩, Or.inr ⟨n, by omega, hf, fun i a b => by omega, hrun, rfl⟩⟩
    · by_cases e : val i = val n
      · rw [e, ← hrun]; omega
      · have hin : i ≠ n := fun q => e (by rw [q])
        rw [es, if_neg (fun q => e q.2.symm)]
        have := hB.1 i (by omega) hfi
        omega
    · right
      by_cases hle : B ≤ run + 1
      · exact ⟨n, by omega, hf, by rw [← hrun]; omega⟩
      · rcases hB.2 with h | ⟨i, i1, i2, i3⟩
        · omega
        · by_cases e : val i = val n
          · have : B = run := by rw [← i3, e, l4, hvl]
            omega
          · exact ⟨i, by omega, i2, by rw [es, if_neg (fun q => e q.2.symm)]; omega⟩
theorem walk_new {fit : Nat → Bool} {val : Nat → Nat} {n B run : Nat} {last : Int32} (hm : ∀ i j, i ≤ j → val i ≤ val j) (hB : BM fit val n B) (hR : RLn fit val n run last) (hf : fit n = true) (he : ¬ nI (val n) = last) : BM fit val (n + 1) (max B 1) ∧ RLn fit val (n + 1) 1 (nI (val n)) := by
  have es : ∀ a, cG fit val a (n + 1) = cG fit val a n + (if fit n = true ∧ val n = a then 1 else 0) := fun a => rfl
  have hne : ∀ i, i < n → fit i = true → val i ≠ val n := by
    intro i hi hfi q
    rcases hR with ⟨h1, h2, h3⟩ | ⟨l, l1, l2, l3, l4, l5⟩
    · exact h1 i hi hfi
    · have hil : i ≤ l := by
        rcases Nat.lt_or_ge l i with z | z
        · exact absurd hfi (l3 i z hi)
        · exact z
      have a1 := hm i l hil
      have a2 := hm l n (by omega)
      have : val n = val l := by omega
      exact he (by rw [l5, this])
  have h0 : cG fit val (val n) n = 0 := cG_none n hne
  have hrun : 1 = cG fit val (val n) (n + 1) := by rw [es, if_pos ⟨hf, rfl⟩, h0]
  refine ⟨⟨fun i hi hfi => ?_, ?_⟩, Or.inr ⟨n, by omega, hf, fun i a b => by omega, hrun, rfl⟩⟩
  · by_cases e : i = n
    · subst e; rw [← hrun]; omega
    · rw [es, if_neg (fun q => hne i (by omega) hfi q.2.symm)]
      have := hB.1 i (by omega) hfi
      omega
  · right
    by_cases hle : B ≤ 1
    · exact ⟨n, by omega, hf, by rw [← hrun]; omega⟩
    · rcases hB.2 with h | ⟨i, i1, i2, i3⟩
      · omega
      · exact ⟨i, by omega, i2, by rw [es, if_neg (fun q => hne i i1 i2 q.2.symm)]; omega⟩
theorem cG_le {fit : Nat → Bool} {val : Nat → Nat} {a : Nat} : ∀ n, cG fit val a n ≤ rk fit n := by
  intro n
  induction n with
  | zero => exact Nat.le_refl _
  | succ n ih =>
    show cG fit val a n + _ ≤ rk fit n + _
    by_cases hf : fit n = true
    · rw [if_pos hf]; split <;> omega
    · rw [if_neg hf, if_neg (fun q => hf q.1)]; omega
theorem rk_le {fit : Nat → Bool} : ∀ n, rk fit n ≤ n := by
  intro n
  induction n with
  | zero => exact Nat.le_refl _
  | succ n ih => show rk fit n + _ ≤ n + 1; split <;> omega
theorem rk_ex {fit : Nat → Bool} : ∀ n, 0 < rk fit n → ∃ i, i < n ∧ fit i = true := by
  intro n
  induction n with
  | zero => intro h; exact absurd h (Nat.lt_irrefl 0)
  | succ n ih =>
    intro h
    by_cases hf : fit n = true
    · exact ⟨n, by omega, hf⟩
    · have e : rk fit (n + 1) = rk fit n := by show rk fit n + _ = _; rw [if_neg hf]; omega
      obtain ⟨i, a, b⟩ := ih (by omega)
      exact ⟨i, by omega, b⟩
theorem mcG_le {fit : Nat → Bool} {val : Nat → Nat} {n : Nat} : mcG fit val n ≤ rk fit n := by
  rcases (mcG_BM fit val n).2 with h | ⟨i, -, -, e⟩
  · omega
  · rw [← e]; exact cG_le n
theorem mcG_1 {fit : Nat → Bool} {val : Nat → Nat} {n : Nat} (h : 0 < rk fit n) : 1 ≤ mcG fit val n := by
  obtain ⟨i, i1, i2⟩ := rk_ex n h
  have := (mcG_BM fit val n).1 i i1 i2
  have := cG_pos (val := val) n i i1 i2
  omega
theorem mcG_all {fit : Nat → Bool} {val : Nat → Nat} {n a : Nat} (h : ∀ i, val i = a) : mcG fit val n = rk fit n := by
  rcases Nat.eq_zero_or_pos (rk fit n) with h0 | h0
  · have := mcG_le (fit := fit) (val := val) (n := n); omega
  · obtain ⟨i, i1, i2⟩ := rk_ex n h0
    have h1 := (mcG_BM fit val n).1 i i1 i2
    rw [h i, cG_all h n] at h1
    have := mcG_le (fit := fit) (val := val) (n := n)
    omega
/-! the bits of the fitting gifts -/
def bits (fit : Nat → Bool) : Int32 := fo (fun (v : Int32) i => if fit i = true then v ||| bitI i else v) 10 0 0
theorem bits_all : ∀ (x0 x1 x2 x3 x4 x5 x6 x7 x8 x9 : Bool), f_J6_bitCount_0f7a4 (bits (fun i => [x0, x1, x2, x3, x4, x5, x6, x7, x8, x9].getD i false)) = nI (rk (fun i => [x0, x1, x2, x3, x4, x5, x6, x7, x8, x9].getD i false) 10) ∧ ∀ j, j < 10 → (bits (fun i => [x0, x1, x2, x3, x4, x5, x6, x7, x8, x9].getD i false) &&& bitI j = 0 ↔ ¬ [x0, x1, x2, x3, x4, x5, x6, x7, x8, x9].getD j false = true) := by decide +kernel
theorem rk_congr {f g : Nat → Bool} : ∀ n, (∀ i, i < n → f i = g i) → rk f n = rk g n := by
  intro n
  induction n with
  | zero => intro _; rfl
  | succ n ih => intro h; show rk f n + _ = rk g n + _; rw [ih (fun i hi => h i (by omega)), h n (by omega)]
theorem bits_ok (fit : Nat → Bool) : f_J6_bitCount_0f7a4 (bits fit) = nI (rk fit 10) ∧ ∀ j, j < 10 → (bits fit &&& bitI j = 0 ↔ ¬ fit j = true) := by
  have hb : ∀ i, i < 10 → [fit 0, fit 1, fit 2, fit 3, fit 4, fit 5, fit 6, fit 7, fit 8, fit 9].getD i false = fit i := by
    intro i hi
    rcases (show i = 0 ∨ i = 1 ∨ i = 2 ∨ i = 3 ∨ i = 4 ∨ i = 5 ∨ i = 6 ∨ i = 7 ∨ i = 8 ∨ i = 9 by omega) with rfl | rfl | rfl | rfl | rfl | rfl | rfl | rfl | rfl | rfl <;> rfl
  obtain ⟨k1, k2⟩ := bits_all (fit 0) (fit 1) (fit 2) (fit 3) (fit 4) (fit 5) (fit 6) (fit 7) (fit 8) (fit 9)
  have e1 : bits (fun i => [fit 0, fit 1, fit 2, fit 3, fit 4, fit 5, fit 6, fit 7, fit 8, fit 9].getD i false) = bits fit := fo_congr 10 0 0 (fun s i _ h2 => by simp only [hb i (by omega)])
  have e2 : rk (fun i => [fit 0, fit 1, fit 2, fit 3, fit 4, fit 5, fit 6, fit 7, fit 8, fit 9].getD i false) 10 = rk fit 10 := rk_congr 10 hb
  rw [e1, e2] at k1
  refine ⟨k1, fun j hj => ?_⟩
  have := k2 j hj
  rw [e1, hb j hj] at this
  exact this
