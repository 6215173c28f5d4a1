/-! ===== the functions: places, rows, worlds ===== -/
abbrev Rw : Type := Nat → Int32
def sR (d : Dt) (q : Nat) (r : Rw) : Dt := (fun a => if a = q then r else d.1 a, d.2)
theorem pI_sR (d : Dt) (q k : Nat) (v : Int32) : pI d q k v = sR d q (upd (d.1 q) k v) := rfl
theorem sR_self {d : Dt} {q : Nat} {r : Rw} : (sR d q r).1 q = r := by simp [sR]
theorem sR_ne {d : Dt} {q : Nat} {r : Rw} {a : Nat} (h : a ≠ q) : (sR d q r).1 a = d.1 a := by simp [sR, h]
theorem sR_2 {d : Dt} {q : Nat} {r : Rw} : (sR d q r).2 = d.2 := rfl
theorem sR_sR {d : Dt} {q : Nat} {r r' : Rw} : sR (sR d q r) q r' = sR d q r' := by
  unfold sR
  refine Prod.ext (funext fun a => ?_) rfl
  by_cases h : a = q <;> simp [h]
theorem sR_id {d : Dt} {q : Nat} : sR d q (d.1 q) = d := by
  unfold sR
  refine Prod.ext (funext fun a => ?_) rfl
  by_cases h : a = q
  · subst h; simp
  · simp [h]
theorem upd_s {f : Rw} {k : Nat} {x : Int32} : upd f k x k = x := by simp [upd]
theorem upd_n {f : Rw} {k j : Nat} {x : Int32} (h : j ≠ k) : upd f k x j = f j := by simp [upd, h]
theorem pI_at {d : Dt} {q k a j : Nat} {v : Int32} : (pI d q k v).1 a j = if a = q ∧ j = k then v else d.1 a j := by
  by_cases h : a = q
  · subst h
    by_cases h2 : j = k
    · subst h2; simp [pI, upd]
    · simp [pI, upd, h2]
  · simp [pI, h]
theorem pI_2 {d : Dt} {q k : Nat} {v : Int32} : (pI d q k v).2 = d.2 := rfl
/-! numbers -/
theorem lit_nI (n : Nat) : (OfNat.ofNat n : Int32) = nI n := rfl
theorem nI_sub {a b : Nat} (h : b ≤ a) : nI a - nI b = nI (a - b) := by
  have h1 : nI (a - b) + nI b = nI a := by rw [nI_add]; congr 1; omega
  rw [← h1, Int32.add_sub_cancel]
theorem nI_mul (a b : Nat) : nI a * nI b = nI (a * b) := (Int32.ofNat_mul a b).symm
theorem nI_div {a b : Nat} (ha : a < 2 ^ 31) (hb : b < 2 ^ 31) : nI a / nI b = nI (a / b) := by
  apply Int32.toInt_inj.mp
  have h2 : a / b < 2 ^ 31 := Nat.lt_of_le_of_lt (Nat.div_le_self a b) ha
  have hne : ¬ ((nI a) = Int32.minValue ∧ (nI b) = -1) := by
    intro ⟨h, _⟩
    have := congrArg Int32.toInt h
    rw [nI_toInt ha] at this
    have h3 : Int32.minValue.toInt = -2147483648 := by decide
    omega
  rw [Int32.toInt_div_of_ne_left, nI_toInt ha, nI_toInt hb, nI_toInt h2]
  · exact Int.ofNat_tdiv a b |>.symm ▸ rfl
  · intro h
    exact hne ⟨h, by
      exfalso
      have := congrArg Int32.toInt h
      rw [nI_toInt ha] at this
      have h3 : Int32.minValue.toInt = -2147483648 := by decide
      omega⟩
theorem nI_mod {a b : Nat} (ha : a < 2 ^ 31) (hb : b < 2 ^ 31) : nI a - nI a / nI b * nI b = nI (a % b) := by
  rw [nI_div ha hb, nI_mul, nI_sub (Nat.div_mul_le_self a b)]
  congr 1
  have := Nat.div_add_mod a b
  rw [Nat.mul_comm] at this
  omega
theorem nI_inj {a b : Nat} (ha : a < 2 ^ 31) (hb : b < 2 ^ 31) (h : nI a = nI b) : a = b := (nI_eq ha hb).mp h
theorem nI_ne4 {a : Nat} (ha : a < 2 ^ 31) : ¬ nI a = -4 := by
  intro h
  have h1 := congrArg Int32.toInt h
  rw [nI_toInt ha] at h1
  have h2 : (-4 : Int32).toInt = -4 := by decide
  omega
/-- an int between two literals -/
theorem wi_iff {v : Int32} {a b : Nat} (ha : a < 2 ^ 31) (hb : b < 2 ^ 31) : ¬ f_X8_within v (nI a) (nI b) = 0 ↔ ∃ n, a ≤ n ∧ n ≤ b ∧ v = nI n := by
  unfold f_X8_within
  constructor
  · intro h
    have h1 : ¬ v < nI a := fun q => h (if_pos q)
    have h2 : ¬ nI b < v := fun q => h (by rw [if_neg h1, if_pos q])
    have h0 : ¬ v < 0 := by
      intro q
      apply h1
      have h3 : (0 : Int32) ≤ nI a := nI_pos' ha
      exact Int32.lt_of_lt_of_le q h3
    obtain ⟨n, hn, rfl⟩ := nI_of h0
    refine ⟨n, ?_, ?_, rfl⟩
    · rcases Nat.lt_or_ge n a with q | q
      · exact absurd (nI_lt q ha) h1
      · exact q
    · rcases Nat.lt_or_ge b n with q | q
      · exact absurd (nI_lt q hn) h2
      · exact q
  · rintro ⟨n, h1, h2, rfl⟩
    rw [if_neg (nI_nlt h1 (by omega)), if_neg (nI_nlt h2 hb)]
    decide
theorem wi_01 (v a b : Int32) : f_X8_within v a b = 0 ∨ f_X8_within v a b = 1 := bo_X8_within v a b
theorem lg_lt {x y : Int64} : lg_cmp x y < 0 ↔ x < y := by
  unfold lg_cmp
  by_cases h : x > y
  · rw [if_pos h]
    constructor
    · intro q; exact absurd q (by decide)
    · intro q; exact absurd (Int64.lt_trans h q) (Int64.lt_irrefl)
  · rw [if_neg h]
    by_cases h2 : x = y
    · rw [if_pos h2]
      subst h2
      constructor
      · intro q; exact absurd q (by decide)
      · intro q; exact absurd q (Int64.lt_irrefl)
    · rw [if_neg h2]
      constructor
      · intro _
        have h3 : x.toInt ≠ y.toInt := fun q => h2 (Int64.toInt_inj.mp q)
        have h4 : ¬ y.toInt < x.toInt := fun q => h (Int64.lt_iff_toInt_lt.mpr q)
        exact Int64.lt_iff_toInt_lt.mpr (by omega)
      · intro _; decide
theorem lg_gt {x y : Int64} : 0 < lg_cmp x y ↔ y < x := by
  unfold lg_cmp
  by_cases h : x > y
  · rw [if_pos h]
    exact ⟨fun _ => h, fun _ => by decide⟩
  · rw [if_neg h]
    constructor
    · intro q
      split at q <;> exact absurd q (by decide)
    · intro q; exact absurd q h
theorem i64_lt {a b : Int32} : a.toInt64 < b.toInt64 ↔ a < b := by
  rw [Int64.lt_iff_toInt_lt, Int32.lt_iff_toInt_lt, Int32.toInt_toInt64, Int32.toInt_toInt64]
/-- the reference's test is the class's -/
theorem in_within (a b c : Int32) : f_X9_in a.toInt64 b.toInt64 c.toInt64 = f_X8_within a b c := by
  unfold f_X9_in f_X8_within
  simp only [lg_lt, lg_gt, i64_lt]
theorem in_w0 (a : Int32) (n : Nat) (hn : n < 2 ^ 31) (x : Int64) (hx : x = lN n) : f_X9_in a.toInt64 (0 : Int64) x = f_X8_within a 0 (nI n) := by
  rw [hx, ← nI_l hn, show (0 : Int64) = (0 : Int32).toInt64 by decide, in_within]
theorem in_w1 (a : Int32) (n : Nat) (hn : n < 2 ^ 31) (x : Int64) (hx : x = lN n) : f_X9_in a.toInt64 (1 : Int64) x = f_X8_within a 1 (nI n) := by
  rw [hx, ← nI_l hn, show (1 : Int64) = (1 : Int32).toInt64 by decide, in_within]
theorem lesser_jmin (a b : Int32) : f_X9_lesser a b = jmin a b := by
  unfold f_X9_lesser jmin
  by_cases h : a < b
  · have h1 : ¬ b < a := fun q => absurd (Int32.lt_trans h q) (Int32.lt_irrefl)
    simp [h, h1, Int32.not_le.mpr h]
  · have h1 : b ≤ a := Int32.not_lt.mp h
    by_cases h2 : b < a
    · simp [h, h1, h2]
    · have h3 : a = b := Int32.le_antisymm (Int32.not_lt.mp h2) h1
      simp [h3]
