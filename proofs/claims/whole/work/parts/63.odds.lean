/-! ===== longs, Euclid, odds ===== -/
theorem lQ_toInt {n : Nat} (h : n < 2 ^ 62) : (lN n).toInt = (n : Int) := lg_ofNat_toInt (by omega)
theorem lQ_inj {a b : Nat} (ha : a < 2 ^ 62) (hb : b < 2 ^ 62) (h : lN a = lN b) : a = b := by
  have h1 := congrArg Int64.toInt h
  rw [lQ_toInt ha, lQ_toInt hb] at h1
  omega
theorem lQ_0 {a : Nat} (ha : a < 2 ^ 62) : lN a = 0 ↔ a = 0 := ⟨fun h => lQ_inj (b := 0) ha (by omega) h, fun h => by rw [h]; rfl⟩
theorem lQ_div {a b : Nat} (ha : a < 2 ^ 62) (hb : b < 2 ^ 62) : lN a / lN b = lN (a / b) := by
  apply Int64.toInt_inj.mp
  have h2 : a / b < 2 ^ 62 := Nat.lt_of_le_of_lt (Nat.div_le_self a b) ha
  rw [Int64.toInt_div_of_ne_left, lQ_toInt ha, lQ_toInt hb, lQ_toInt h2]
  · exact Int.ofNat_tdiv a b |>.symm ▸ rfl
  · intro h
    have := congrArg Int64.toInt h
    rw [lQ_toInt ha] at this
    have h3 : Int64.minValue.toInt = -9223372036854775808 := by decide
    omega
theorem lQ_mod {a b : Nat} (ha : a < 2 ^ 62) (hb : b < 2 ^ 62) : lN a - lN a / lN b * lN b = lN (a % b) := by
  rw [lQ_div ha hb, lN_mul, lN_sub (Nat.div_mul_le_self a b)]
  congr 1
  have := Nat.div_add_mod a b
  rw [Nat.mul_comm] at this
  omega
theorem lg_eq {x y : Int64} : lg_cmp x y = 0 ↔ x = y := by
  unfold lg_cmp
  by_cases h : x > y
  · rw [if_pos h]
    exact ⟨fun q => absurd q (by decide), fun q => absurd (q ▸ h) Int64.lt_irrefl⟩
  · rw [if_neg h]
    by_cases h2 : x = y
    · rw [if_pos h2]; exact ⟨fun _ => h2, fun _ => rfl⟩
    · rw [if_neg h2]; exact ⟨fun q => absurd q (by decide), fun q => absurd q h2⟩
theorem eu_half {k x y : Nat} (hy : y < 2 ^ (k + 1)) (h0 : 0 < y) (hr : 0 < x % y) : y % (x % y) < 2 ^ k := by
  have h1 : x % y < y := Nat.mod_lt _ h0
  have h2 : y % (x % y) < x % y := Nat.mod_lt _ hr
  have h3 := Nat.div_add_mod y (x % y)
  have h4 : 1 ≤ y / (x % y) := (Nat.le_div_iff_mul_le hr).mpr (by omega)
  have h5 : x % y ≤ (x % y) * (y / (x % y)) := by
    have := Nat.mul_le_mul_left (x % y) h4
    rw [Nat.mul_one] at this
    exact this
  have h6 : 2 ^ (k + 1) = 2 * 2 ^ k := by rw [Nat.pow_succ]; omega
  omega
theorem x_eu {v0 v2 : Int64} {v4 : Int32} {K : Int64 → Int64 → Int32 → Option Int64} : ∀ (k x y f c : Nat), x < 2 ^ 62 → y < 2 ^ 62 → y < 2 ^ k → 2 * k < f → c + 2 * k ≤ 100 → ∃ z c', f_X8_partOfFraction_L9 v0 v2 v4 K f (lN x) (lN y) (nI c) = K (lN (Nat.gcd x y)) z c' := by
  intro k
  induction k with
  | zero =>
    intro x y f c hx hy hk hf hc
    have : y = 0 := by rw [Nat.pow_zero] at hk; omega
    subst this
    obtain ⟨f', rfl⟩ : ∃ f', f = f' + 1 := ⟨f - 1, by omega⟩
    unfold f_X8_partOfFraction_L9
    rw [Nat.gcd_zero_right, if_pos (lg_eq.mpr ((lQ_0 (by omega)).mpr rfl))]
    split
    · exact ⟨_, _, rfl⟩
    · exact ⟨_, _, rfl⟩
  | succ k ih =>
    intro x y f c hx hy hk hf hc
    obtain ⟨f', rfl⟩ : ∃ f', f = (f' + 1) + 1 := ⟨f - 2, by omega⟩
    unfold f_X8_partOfFraction_L9
    rw [if_neg (fun q => by have := (nI_leI (a := 100) (b := c) (by omega) (by omega)).mp q; omega)]
    rcases Nat.eq_zero_or_pos y with h0 | h0
    · subst h0
      rw [if_pos (lg_eq.mpr ((lQ_0 (by omega)).mpr rfl)), Nat.gcd_zero_right]
      exact ⟨_, _, rfl⟩
    · have hne : ¬ lN y = 0 := fun q => by have := (lQ_0 hy).mp q; omega
      have hr : x % y < y := Nat.mod_lt _ h0
      rw [if_neg (fun q => hne (lg_eq.mp q)), if_pos hne, lQ_mod hx hy, nI_1]
      have hg : Nat.gcd x y = Nat.gcd y (x % y) := by rw [Nat.gcd_comm x y, Nat.gcd_rec, Nat.gcd_comm]
      rw [hg]
      unfold f_X8_partOfFraction_L9
      rw [if_neg (fun q => by have := (nI_leI (a := 100) (b := c + 1) (by omega) (by omega)).mp q; omega)]
      rcases Nat.eq_zero_or_pos (x % y) with h1 | h1
      · rw [h1, if_pos (lg_eq.mpr ((lQ_0 (by omega)).mpr rfl)), Nat.gcd_zero_right]
        exact ⟨_, _, rfl⟩
      · have hne2 : ¬ lN (x % y) = 0 := fun q => by have := (lQ_0 (by omega)).mp q; omega
        rw [if_neg (fun q => hne2 (lg_eq.mp q)), if_pos hne2, lQ_mod hy (by omega), nI_1]
        have hg2 : Nat.gcd y (x % y) = Nat.gcd (x % y) (y % (x % y)) := by rw [Nat.gcd_comm y, Nat.gcd_rec, Nat.gcd_comm]
        rw [hg2]
        have hh := eu_half hk h0 h1
        have : y % (x % y) < x % y := Nat.mod_lt _ h1
        exact ih (x % y) (y % (x % y)) f' (c + 1 + 1) (by omega) (by omega) hh (by omega) (by omega)
theorem m_eu : ∀ (k x y f : Nat), x < 2 ^ 62 → y < 2 ^ 62 → y < 2 ^ k → 2 * k < f → f_X9_common_L6 f (lN x) (lN y) = some (lN (Nat.gcd x y)) := by
  intro k
  induction k with
  | zero =>
    intro x y f hx hy hk hf
    have : y = 0 := by rw [Nat.pow_zero] at hk; omega
    subst this
    obtain ⟨f', rfl⟩ : ∃ f', f = f' + 1 := ⟨f - 1, by omega⟩
    unfold f_X9_common_L6
    rw [Nat.gcd_zero_right, if_pos (lg_eq.mpr ((lQ_0 (by omega)).mpr rfl))]
  | succ k ih =>
    intro x y f hx hy hk hf
    obtain ⟨f', rfl⟩ : ∃ f', f = (f' + 1) + 1 := ⟨f - 2, by omega⟩
    unfold f_X9_common_L6
    rcases Nat.eq_zero_or_pos y with h0 | h0
    · subst h0
      rw [if_pos (lg_eq.mpr ((lQ_0 (by omega)).mpr rfl)), Nat.gcd_zero_right]
    · have hne : ¬ lN y = 0 := fun q => by have := (lQ_0 hy).mp q; omega
      have hr : x % y < y := Nat.mod_lt _ h0
      rw [if_neg (fun q => hne (lg_eq.mp q)), if_pos hne, lQ_mod hx hy]
      have hg : Nat.gcd x y = Nat.gcd y (x % y) := by rw [Nat.gcd_comm x y, Nat.gcd_rec, Nat.gcd_comm]
      rw [hg]
      unfold f_X9_common_L6
      rcases Nat.eq_zero_or_pos (x % y) with h1 | h1
      · rw [h1, if_pos (lg_eq.mpr ((lQ_0 (by omega)).mpr rfl)), Nat.gcd_zero_right]
      · have hne2 : ¬ lN (x % y) = 0 := fun q => by have := (lQ_0 (by omega)).mp q; omega
        rw [if_neg (fun q => hne2 (lg_eq.mp q)), if_pos hne2, lQ_mod hy (by omega)]
        have hg2 : Nat.gcd y (x % y) = Nat.gcd (x % y) (y % (x % y)) := by rw [Nat.gcd_comm y, Nat.gcd_rec, Nat.gcd_comm]
        rw [hg2]
        have hh := eu_half hk h0 h1
        have : y % (x % y) < x % y := Nat.mod_lt _ h1
        exact ih (x % y) (y % (x % y)) f' (by omega) (by omega) hh (by omega)
def prt (a b : Nat) (v : Int32) : Int64 := if v = 0 then lN (a / Nat.gcd b a) else lN (b / Nat.gcd b a)
theorem x_part {a b : Nat} (ha : a < 2 ^ 40) (hb : b < 2 ^ 40) (h0 : 0 < b) (v : Int32) : f_X8_partOfFraction (lN a) (lN b) v = some (prt a b v) := by
  unfold f_X8_partOfFraction
  have hg : Nat.gcd b a ≤ b := Nat.gcd_le_left a h0
  have hg0 : 0 < Nat.gcd b a := Nat.gcd_pos_of_pos_left a h0
  obtain ⟨z, c', e⟩ := x_eu (v0 := lN a) (v2 := lN b) (v4 := v) (K := fun x4_5 x4_7 x4_9 => f_X8_partOfFraction_J44 (lN a) (lN b) v x4_5) 40 b a FU 0 (by omega) (by omega) ha (by unfold FU; omega) (by omega)
  refine e.trans ?_
  show f_X8_partOfFraction_J44 (lN a) (lN b) v (lN (Nat.gcd b a)) = _
  have hne : ¬ lN (Nat.gcd b a) = 0 := fun q => by have := (lQ_0 (by omega)).mp q; omega
  unfold f_X8_partOfFraction_J44 prt
  rw [if_neg (fun q => hne (lg_eq.mp q)), if_pos hne, if_pos hne, lQ_div (by omega) (by omega), lQ_div (by omega) (by omega)]
  split <;> rfl
theorem m_told {a b : Nat} (ha : a < 2 ^ 40) (hb : b < 2 ^ 40) (h0 : 0 < b) (v : Int32) : f_X9_told (lN a) (lN b) v = some (prt a b v) := by
  unfold f_X9_told f_X9_common
  have hg : Nat.gcd b a ≤ b := Nat.gcd_le_left a h0
  have hg0 : 0 < Nat.gcd b a := Nat.gcd_pos_of_pos_left a h0
  have hne : ¬ lN (Nat.gcd b a) = 0 := fun q => by have := (lQ_0 (by omega)).mp q; omega
  unfold prt
  rw [m_eu 40 b a FU (by omega) (by omega) ha (by unfold FU; omega), Option.bind_some, if_pos hne, if_pos hne, lQ_div (by omega) (by omega), lQ_div (by omega) (by omega)]
  split <;> rfl
theorem prt_mul {a b p : Nat} (hp : 0 < p) (v : Int32) : prt (p * a) (p * b) v = prt a b v := by
  unfold prt
  rw [Nat.gcd_mul_left, Nat.mul_div_mul_left _ _ hp, Nat.mul_div_mul_left _ _ hp]
theorem x_ten_L {n : Nat} (hn : n < 100) : ∀ (f c : Nat), c ≤ n → n - c < f → f_X8_powerOfTen_L4 (nI n) f (lN (10 ^ c)) (nI c) = some (lN (10 ^ n)) := by
  intro f
  induction f with
  | zero => intro c h1 h2; omega
  | succ f ih =>
    intro c h1 h2
    unfold f_X8_powerOfTen_L4
    by_cases hc : c < n
    · rw [if_neg (fun q => by have := (nI_leI (a := n) (b := c) (by omega) (by omega)).mp q; omega), show (10 : Int64) = lN 10 from rfl, lN_mul, ← Nat.pow_succ, nI_1]
      exact ih (c + 1) (by omega) (by omega)
    · have : c = n := by omega
      subst this
      rw [if_pos ((nI_leI (by omega) (by omega)).mpr (by omega))]
theorem x_ten {n : Nat} (hn : n < 100) : f_X8_powerOfTen (nI n) = some (lN (10 ^ n)) := x_ten_L hn FU 0 (by omega) (by unfold FU; omega)
/-! the spread -/
def wy (v : Nat) : Nat → Nat → Nat
  | 0, j => if j = 0 then 1 else 0
  | q + 1, j => wy v q j * v + (if j = 0 then 0 else wy v q (j - 1) * (10 - v))
theorem wy_hi {v : Nat} : ∀ q j, q < j → wy v q j = 0 := by
  intro q
  induction q with
  | zero => intro j h; show (if j = 0 then 1 else 0) = 0; rw [if_neg (by omega)]
  | succ q ih =>
    intro j h
    show wy v q j * v + (if j = 0 then 0 else wy v q (j - 1) * (10 - v)) = 0
    rw [ih j (by omega), if_neg (by omega), ih (j - 1) (by omega)]
    omega
theorem jL_s {d : Dt} {q k : Nat} {v : Int64} : (pJ d q k v).2 q k = v := by rw [pJ_self]; unfold vp_updL; rw [if_pos rfl]
theorem jL_n {d : Dt} {q k j : Nat} {v : Int64} (h : j ≠ k) : (pJ d q k v).2 q j = d.2 q j := by rw [pJ_self]; unfold vp_updL; rw [if_neg h]
theorem jL_1 {d : Dt} {q k : Nat} {v : Int64} : (pJ d q k v).1 = d.1 := rfl
theorem x_fillL : ∀ (n c : Nat) (d : Dt), c ≤ 9 → 9 - c < n → (∀ j, j < c → d.2 39 j = 0) → ∃ D, D.1 = d.1 ∧ (∀ j, j < 9 → D.2 39 j = 0) ∧ f_J7_fill_d0a16_L6 L0 39 0 (nI 9) n (nI c) d = some D := by
  intro n
  induction n with
  | zero => intro c d h1 h2; omega
  | succ n ih =>
    intro c d h1 h2 h
    unfold f_J7_fill_d0a16_L6
    by_cases hc : c < 9
    · obtain ⟨D, e1, e2, e3⟩ := ih (c + 1) (pJ d 39 c 0) (by omega) (by omega) (fun j hj => by
        by_cases e : j = c
        · subst e; exact jL_s
        · rw [jL_n e]; exact h j (by omega))
      refine ⟨D, e1, e2, ?_⟩
      rw [if_neg (fun q => by have := (nI_leI (a := 9) (b := c) (by omega) (by omega)).mp q; omega), O_ok hc, if_pos rfl, nI_1, nI_clamp (by omega)]
      exact e3
    · have : c = 9 := by omega
      subst this
      rw [if_pos (by decide)]
      exact ⟨d, rfl, h, rfl⟩
theorem nI_dec (e : Nat) : nI (e + 1) + (-1 : Int32) = nI e := by
  rw [← Int32.sub_eq_add_neg]
  exact nI_pred e
theorem x_spr_I {v l : Nat} (hv : v ≤ 10) (hl : l < 8) {v3 v4 : Int32} {K : Int32 → Dt → Option Dt} : ∀ (f e : Nat) (d : Dt), e ≤ l + 1 → e < f → (∀ j, j < 9 → d.2 39 j = if e < j then lN (wy v (l + 1) j) else lN (wy v l j)) → ∃ D y, D.1 = d.1 ∧ (∀ j, j < 9 → D.2 39 j = if 0 < j then lN (wy v (l + 1) j) else lN (wy v l j)) ∧ f_X2_spread_L37 L0 38 (nI v) v3 v4 K f (nI e) d = K y D := by
  intro f
  induction f with
  | zero => intro e d h1 h2; omega
  | succ f ih =>
    intro e d h1 h2 h
    unfold f_X2_spread_L37
    rcases Nat.eq_zero_or_pos e with h0 | h0
    · subst h0
      rw [if_pos (by decide)]
      exact ⟨d, _, rfl, h, rfl⟩
    · obtain ⟨e', rfl⟩ : ∃ e', e = e' + 1 := ⟨e - 1, by omega⟩
      have hw : d.2 39 (e' + 1) * lN v + d.2 39 e' * lN (10 - v) = lN (wy v (l + 1) (e' + 1)) := by
        rw [h (e' + 1) (by omega), h e' (by omega), if_neg (by omega), if_neg (by omega), lN_mul, lN_mul, lN_add]
        rfl
      obtain ⟨D, y, e1, e2, e3⟩ := ih e' (pJ d 39 (e' + 1) (lN (wy v (l + 1) (e' + 1)))) (by omega) (by omega) (fun j hj => by
        by_cases c1 : j = e' + 1
        · subst c1; rw [jL_s, if_pos (by omega)]
        · rw [jL_n c1, h j hj]
          by_cases c2 : e' < j
          · rw [if_pos (by omega), if_pos c2]
          · rw [if_neg (by omega), if_neg c2])
      refine ⟨D, y, e1, e2, ?_⟩
      rw [if_neg (nI_nle (by omega) (by omega)), O_w, Option.bind_some, O_ok (by omega), if_pos rfl, nI_pred, O_ok (by omega), if_pos rfl, nI_clamp (by omega), nI_clamp (by omega), nI_l (by omega), show (10 : Int32) = nI 10 from rfl, nI_sub hv, nI_l (by omega), hw, nI_dec]
      exact e3
theorem x_spr_O {v q : Nat} (hv : v ≤ 10) (hq : q ≤ 8) : ∀ (f l : Nat) (d : Dt), l ≤ q → q - l < f → (∀ j, j < 9 → d.2 39 j = lN (wy v l j)) → ∃ D, D.1 = d.1 ∧ (∀ j, j < 9 → D.2 39 j = lN (wy v q j)) ∧ f_X2_spread_L25 L0 38 (nI v) (nI q) f (nI l) d = some D := by
  intro f
  induction f with
  | zero => intro l d h1 h2; omega
  | succ f ih =>
    intro l d h1 h2 h
    unfold f_X2_spread_L25
    by_cases hl : l < q
    · obtain ⟨D1, y, e1, e2, e3⟩ := x_spr_I (v := v) (l := l) hv (by omega) (v3 := nI q) (v4 := nI l) (K := fun x9_5 d9 => (rf L0 38 2 0).bind fun q10 => if okL L0 q10 0 = true then (f_X2_spread_L25 L0 38 (nI v) (nI q) f (nI (l + 1)) (pJ d9 q10 ((0 : Int32)).toNatClampNeg ((d9.2 q10 ((0 : Int32)).toNatClampNeg) * (nI v).toInt64))) else none) FU (l + 1) d (by omega) (by unfold FU; omega) (fun j hj => by
        rw [h j hj]
        by_cases c1 : l + 1 < j
        · rw [if_pos c1, wy_hi l j (by omega), wy_hi (l + 1) j (by omega)]
        · rw [if_neg c1])
      obtain ⟨D, g1, g2, g3⟩ := ih (l + 1) (pJ D1 39 0 (lN (wy v (l + 1) 0))) (by omega) (by omega) (fun j hj => by
        by_cases c1 : j = 0
        · subst c1; exact jL_s
        · rw [jL_n c1, e2 j hj, if_pos (by omega)])
      refine ⟨D, g1.trans e1, g2, ?_⟩
      rw [if_neg (fun z => by have := (nI_leI (a := q) (b := l) (by omega) (by omega)).mp z; omega), nI_1]
      refine e3.trans ?_
      have t0 : (0 : Int32).toNatClampNeg = 0 := rfl
      have hz : D1.2 39 0 * lN v = lN (wy v (l + 1) 0) := by
        rw [e2 0 (by omega), if_neg (by omega), lN_mul]
        rfl
      show ((rf L0 38 2 0).bind fun q10 => if okL L0 q10 0 = true then (f_X2_spread_L25 L0 38 (nI v) (nI q) f (nI (l + 1)) (pJ D1 q10 ((0 : Int32)).toNatClampNeg ((D1.2 q10 ((0 : Int32)).toNatClampNeg) * (nI v).toInt64))) else none) = _
      rw [O_w, Option.bind_some, show okL L0 39 (0 : Int32) = true from O_ok (i := 0) (by omega), if_pos rfl, t0, nI_l (by omega), hz]
      exact g3
    · have : l = q := by omega
      subst this
      rw [if_pos ((nI_leI (by omega) (by omega)).mpr (by omega))]
      exact ⟨d, rfl, h, rfl⟩
theorem x_spread {v q : Nat} (hv : v ≤ 10) (hq : q ≤ 8) (d : Dt) : ∃ D, D.1 = d.1 ∧ (∀ j, j < 9 → D.2 39 j = lN (wy v q j)) ∧ f_X2_spread L0 d 38 (nI v) (nI q) = some D := by
  obtain ⟨D1, e1, e2, e3⟩ := x_fillL FU 0 d (by omega) (by unfold FU; omega) (fun j hj => by omega)
  obtain ⟨D, g1, g2, g3⟩ := x_spr_O hv hq FU 0 (pJ D1 39 0 1) (by omega) (by unfold FU; omega) (fun j hj => by
    by_cases c1 : j = 0
    · subst c1; rw [jL_s]; rfl
    · rw [jL_n c1, e2 j hj]; show _ = lN (if j = 0 then 1 else 0); rw [if_neg c1]; rfl)
  refine ⟨D, g1.trans e1, g2, ?_⟩
  unfold f_X2_spread f_J7_fill_d0a16
  rw [O_w, Option.bind_some, O_ln, Option.bind_some, show Int32.ofNat 9 = nI 9 from rfl, show f_J7_fill_d0a16_L6 L0 39 0 (nI 9) FU 0 d = _ from e3, Option.bind_some, show okL L0 39 (0 : Int32) = true from O_ok (i := 0) (by omega), if_pos rfl, show (0 : Int32).toNatClampNeg = 0 from rfl, show (8 : Int32) = nI 8 from rfl, jmin_nI (by omega) (by omega), show min q 8 = q by omega]
  exact g3
theorem x_of {j : Nat} (hj : j ≤ 8) (d : Dt) : f_X2_of L0 d 38 (nI j) = some (d.2 39 j) := by
  unfold f_X2_of
  rw [if_neg (show ¬ f_X8_within (nI j) 0 8 = 0 from (wi0_iff 8 (by omega)).mpr ⟨j, hj, rfl⟩), O_w, Option.bind_some, O_ok (by omega), if_pos rfl, nI_clamp (by omega)]
/-! sums -/
def sumN (f : Nat → Nat) : Nat → Nat
  | 0 => 0
  | n + 1 => sumN f n + f n
theorem sumN_congr {f g : Nat → Nat} : ∀ n, (∀ i, i < n → f i = g i) → sumN f n = sumN g n := by
  intro n
  induction n with
  | zero => intro _; rfl
  | succ n ih => intro h; show sumN f n + f n = sumN g n + g n; rw [ih (fun i hi => h i (by omega)), h n (by omega)]
theorem sumN_add {f g : Nat → Nat} : ∀ n, sumN (fun i => f i + g i) n = sumN f n + sumN g n := by
  intro n
  induction n with
  | zero => rfl
  | succ n ih => show sumN (fun i => f i + g i) n + (f n + g n) = (sumN f n + f n) + (sumN g n + g n); rw [ih]; omega
theorem sumN_mul {f : Nat → Nat} (p : Nat) : ∀ n, sumN (fun i => p * f i) n = p * sumN f n := by
  intro n
  induction n with
  | zero => rfl
  | succ n ih => show sumN (fun i => p * f i) n + p * f n = p * (sumN f n + f n); rw [ih, Nat.mul_add]
theorem sumN_split {f : Nat → Nat} (a : Nat) : ∀ b, sumN f (a + b) = sumN f a + sumN (fun i => f (a + i)) b := by
  intro b
  induction b with
  | zero => rfl
  | succ b ih => show sumN f (a + b) + f (a + b) = sumN f a + (sumN (fun i => f (a + i)) b + f (a + b)); rw [ih]; omega
theorem sumN_swap {f : Nat → Nat → Nat} (a : Nat) : ∀ b, sumN (fun i => sumN (fun j => f i j) b) a = sumN (fun j => sumN (fun i => f i j) a) b := by
  intro b
  induction b with
  | zero =>
    show sumN (fun _ => 0) a = 0
    induction a with
    | zero => rfl
    | succ a ih => show sumN (fun _ => 0) a + 0 = 0; rw [ih]
  | succ b ih =>
    show sumN (fun i => sumN (fun j => f i j) b + f i b) a = sumN (fun j => sumN (fun i => f i j) a) b + sumN (fun i => f i b) a
    rw [sumN_add, ih]
/-! patterns of weeks off -/
def ofb (s u : Nat) : Int32 := if s / 2 ^ u % 2 = 1 then 1 else 0
def wt (v s : Nat) : Nat → Nat
  | 0 => 1
  | n + 1 => wt v s n * (if s / 2 ^ n % 2 = 1 then v else 10 - v)
theorem bit_lo {s n u : Nat} (hu : u < n) : (s + 2 ^ n) / 2 ^ u % 2 = s / 2 ^ u % 2 := by
  have h1 : 2 ^ n = 2 ^ u * (2 * 2 ^ (n - u - 1)) := by
    rw [← Nat.mul_assoc, Nat.mul_comm (2 ^ u) 2, Nat.mul_comm 2 (2 ^ u), ← Nat.pow_succ, ← Nat.pow_add]
    congr 1
    omega
  rw [h1, Nat.add_mul_div_left _ _ (Nat.two_pow_pos u), Nat.add_mul_mod_self_left]
theorem bit_hi {s n : Nat} (hs : s < 2 ^ n) : s / 2 ^ n % 2 = 0 ∧ (s + 2 ^ n) / 2 ^ n % 2 = 1 := by
  rw [Nat.div_eq_of_lt hs, Nat.add_div_right _ (Nat.two_pow_pos n), Nat.div_eq_of_lt hs]
  exact ⟨rfl, rfl⟩
theorem wt_lo {v s n : Nat} : ∀ m, m ≤ n → wt v (s + 2 ^ n) m = wt v s m := by
  intro m
  induction m with
  | zero => intro _; rfl
  | succ m ih => intro h; show wt v (s + 2 ^ n) m * _ = wt v s m * _; rw [ih (by omega), bit_lo (by omega)]
theorem cj_congr {S : Nat → Nat} {o o' : Nat → Int32} {b t : Nat} : ∀ n, (∀ u, u < n → o u = o' u) → cj S o b t n = cj S o' b t n := by
  intro n
  induction n with
  | zero => intro _; rfl
  | succ n ih =>
    intro h
    show (if (cq S b t n < t ∧ S n = b) ∧ o n = 0 then cj S o b t n + 1 else cj S o b t n) = (if (cq S b t n < t ∧ S n = b) ∧ o' n = 0 then cj S o' b t n + 1 else cj S o' b t n)
    rw [ih (fun u hu => h u (by omega)), h n (by omega)]
theorem wy_step {v : Nat} (q : Nat) (h : Nat → Nat) : sumN (fun j => wy v q j * ((10 - v) * h (j + 1) + v * h j)) (q + 1) = sumN (fun j => wy v (q + 1) j * h j) (q + 2) := by
  have e1 : ∀ n, sumN (fun j => wy v (q + 1) j * h j) (n + 1) = sumN (fun j => wy v q j * (v * h j)) (n + 1) + sumN (fun j => wy v q j * ((10 - v) * h (j + 1))) n := by
    intro n
    induction n with
    | zero =>
      show 0 + (wy v q 0 * v + (if 0 = 0 then 0 else wy v q (0 - 1) * (10 - v))) * h 0 = (0 + wy v q 0 * (v * h 0)) + 0
      rw [if_pos rfl, Nat.add_zero, Nat.mul_assoc, Nat.add_zero]
    | succ n ih =>
      show sumN (fun j => wy v (q + 1) j * h j) (n + 1) + (wy v q (n + 1) * v + (if n + 1 = 0 then 0 else wy v q (n + 1 - 1) * (10 - v))) * h (n + 1) = (sumN (fun j => wy v q j * (v * h j)) (n + 1) + wy v q (n + 1) * (v * h (n + 1))) + (sumN (fun j => wy v q j * ((10 - v) * h (j + 1))) n + wy v q n * ((10 - v) * h (n + 1)))
      rw [ih, if_neg (by omega), Nat.add_sub_cancel, Nat.add_mul, Nat.mul_assoc, Nat.mul_assoc]
      omega
  rw [e1 (q + 1)]
  show _ = (sumN (fun j => wy v q j * (v * h j)) (q + 1) + wy v q (q + 1) * (v * h (q + 1))) + _
  have z : wy v q (q + 1) * (v * h (q + 1)) = 0 := by rw [wy_hi q (q + 1) (by omega), Nat.zero_mul]
  rw [z]
  show _ = sumN (fun j => wy v q j * (v * h j)) (q + 1) + sumN (fun j => wy v q j * ((10 - v) * h (j + 1))) (q + 1)
  rw [← sumN_add]
  exact sumN_congr _ (fun i _ => by rw [← Nat.mul_add, Nat.add_comm])
theorem pat_sum {S : Nat → Nat} {b t v : Nat} (hv : v ≤ 10) : ∀ (n : Nat) (h : Nat → Nat), sumN (fun s => wt v s n * h (cj S (ofb s) b t n)) (2 ^ n) = 10 ^ (n - cq S b t n) * sumN (fun j => wy v (cq S b t n) j * h j) (cq S b t n + 1) := by
  intro n
  induction n with
  | zero =>
    intro h
    simp [sumN, wt, cj, cq, wy]
  | succ n ih =>
    intro h
    have hcl := cq_le (S := S) (b := b) (t := t) n
    rw [show 2 ^ (n + 1) = 2 ^ n + 2 ^ n by rw [Nat.pow_succ]; omega, sumN_split]
    by_cases hq : cq S b t n < t ∧ S n = b
    · have eq1 : cq S b t (n + 1) = cq S b t n + 1 := if_pos hq
      have A : sumN (fun s => wt v s (n + 1) * h (cj S (ofb s) b t (n + 1))) (2 ^ n) = sumN (fun s => wt v s n * ((10 - v) * h (cj S (ofb s) b t n + 1))) (2 ^ n) := by
        refine sumN_congr _ (fun s hs => ?_)
        have hb := (bit_hi hs).1
        have ho : ofb s n = 0 := by unfold ofb; rw [if_neg (by omega)]
        have hc : cj S (ofb s) b t (n + 1) = cj S (ofb s) b t n + 1 := if_pos ⟨hq, ho⟩
        show wt v s n * (if s / 2 ^ n % 2 = 1 then v else 10 - v) * _ = _
        rw [if_neg (by omega), hc, Nat.mul_assoc]
      have B : sumN (fun i => (fun s => wt v s (n + 1) * h (cj S (ofb s) b t (n + 1))) (2 ^ n + i)) (2 ^ n) = sumN (fun s => wt v s n * (v * h (cj S (ofb s) b t n))) (2 ^ n) := by
        refine sumN_congr _ (fun s hs => ?_)
        show wt v (2 ^ n + s) (n + 1) * h (cj S (ofb (2 ^ n + s)) b t (n + 1)) = _
        rw [Nat.add_comm (2 ^ n) s]
        have hb := (bit_hi hs).2
        have ho : ¬ ofb (s + 2 ^ n) n = 0 := by unfold ofb; rw [if_pos hb]; decide
        have hc : cj S (ofb (s + 2 ^ n)) b t (n + 1) = cj S (ofb s) b t n := (if_neg (fun z => ho z.2)).trans (cj_congr n (fun u hu => by unfold ofb; rw [bit_lo hu]))
        show wt v (s + 2 ^ n) n * (if (s + 2 ^ n) / 2 ^ n % 2 = 1 then v else 10 - v) * _ = _
        rw [if_pos hb, hc, wt_lo n (Nat.le_refl n), Nat.mul_assoc]
      rw [A, B, ← sumN_add, eq1]
      have C := ih (fun j => (10 - v) * h (j + 1) + v * h j)
      rw [show n + 1 - (cq S b t n + 1) = n - cq S b t n by omega, ← wy_step, ← C]
      exact sumN_congr _ (fun s _ => by rw [← Nat.mul_add])
    · have eq1 : cq S b t (n + 1) = cq S b t n := if_neg hq
      have A : sumN (fun s => wt v s (n + 1) * h (cj S (ofb s) b t (n + 1))) (2 ^ n) = sumN (fun s => (10 - v) * (wt v s n * h (cj S (ofb s) b t n))) (2 ^ n) := by
        refine sumN_congr _ (fun s hs => ?_)
        have hb := (bit_hi hs).1
        have hc : cj S (ofb s) b t (n + 1) = cj S (ofb s) b t n := if_neg (fun z => hq z.1)
        show wt v s n * (if s / 2 ^ n % 2 = 1 then v else 10 - v) * _ = _
        rw [if_neg (by omega), hc, Nat.mul_comm (wt v s n) (10 - v), Nat.mul_assoc]
      have B : sumN (fun i => (fun s => wt v s (n + 1) * h (cj S (ofb s) b t (n + 1))) (2 ^ n + i)) (2 ^ n) = sumN (fun s => v * (wt v s n * h (cj S (ofb s) b t n))) (2 ^ n) := by
        refine sumN_congr _ (fun s hs => ?_)
        show wt v (2 ^ n + s) (n + 1) * h (cj S (ofb (2 ^ n + s)) b t (n + 1)) = _
        rw [Nat.add_comm (2 ^ n) s]
        have hb := (bit_hi hs).2
        have hc : cj S (ofb (s + 2 ^ n)) b t (n + 1) = cj S (ofb s) b t n := (if_neg (fun z => hq z.1)).trans (cj_congr n (fun u hu => by unfold ofb; rw [bit_lo hu]))
        show wt v (s + 2 ^ n) n * (if (s + 2 ^ n) / 2 ^ n % 2 = 1 then v else 10 - v) * _ = _
        rw [if_pos hb, hc, wt_lo n (Nat.le_refl n), Nat.mul_comm (wt v s n) v, Nat.mul_assoc]
      rw [A, B, sumN_mul, sumN_mul, ← Nat.add_mul, show 10 - v + v = 10 by omega, ih h, eq1, show n + 1 - cq S b t n = (n - cq S b t n) + 1 by omega, Nat.pow_succ, Nat.mul_comm _ 10, Nat.mul_assoc]
