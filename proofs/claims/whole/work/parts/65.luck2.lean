/-! ===== luck ===== -/
theorem ten_split {r : Rw} {c : Nat} (n : Nat) : 10 ^ n = 10 ^ (n - qN r c n) * 10 ^ qN r c n := by
  have hqn : qN r c n ≤ n := (cq_le (S := seN r) (b := bN r c) (t := tN r c) n).2
  rw [← Nat.pow_add, Nat.sub_add_cancel hqn]
theorem lk_sum {r : Rw} (hG : Good r) {c v n k : Nat} (hc : c < nk r) (hv : v ≤ 10) (hn : n ≤ 8) (hk : k ≤ 99) : sumN (fun s => wt v s n * aF r n (nI c) (nI k) s) (2 ^ n) = 10 ^ (n - qN r c n) * sumN (fun j => wy v (qN r c n) j * hBt k (sN r c j)) (qN r c n + 1) ∧ sumN (fun s => wt v s n * aF r n (nI c) (nI k) s) (2 ^ n) < 2 ^ 40 := by
  have h5 := hG.1.2
  have hA : sumN (fun s => wt v s n * aF r n (nI c) (nI k) s) (2 ^ n) = 10 ^ (n - qN r c n) * sumN (fun j => wy v (qN r c n) j * hBt k (sN r c j)) (qN r c n + 1) := by
    have hp := pat_sum (S := seN r) (b := bN r c) (t := tN r c) hv n (fun j => hBt k (sN r c j))
    refine Eq.trans (sumN_congr _ (fun s _ => ?_)) hp
    obtain ⟨a', hkn⟩ := courseN hG hc (ofb s) n
    have hs := hkn.sk.2
    have ha : aF r n (nI c) (nI k) s = hBt k (sN r c (jN r (ofb s) c n)) := by
      unfold aF
      rw [if_neg (nI_ne4 (by omega)), nI_clamp (by omega), hkn.sk.1]
      unfold hBt
      by_cases hle : k ≤ sN r c (jN r (ofb s) c n)
      · rw [if_neg (nI_nlt hle (by omega)), if_pos hle]
      · rw [if_pos (nI_lt (by omega) (by omega)), if_neg hle]
    rw [ha]
    rfl
  refine ⟨hA, ?_⟩
  rw [hA]
  have hbd := lk_b hv (q_le8 (r := r) (c := c) hn) (fun j => hBt k (sN r c j)) (B := 1) (fun j _ => by show hBt k _ ≤ 1; unfold hBt; split <;> omega)
  have h9 := Nat.mul_le_mul_left (10 ^ (n - qN r c n)) hbd
  have h10 : 10 ^ (n - qN r c n) * (9 * (10 ^ qN r c n * 1)) = 9 * 10 ^ n := by
    rw [ten_split (r := r) (c := c) n, Nat.mul_one, Nat.mul_left_comm]
  have hn10 := ten8 hn
  rw [h10] at h9
  exact Nat.lt_of_le_of_lt h9 (Nat.lt_of_le_of_lt (Nat.mul_le_mul_left 9 hn10) (by omega))
theorem st_luck {d : Dt} (hI : Inv d) (a1 a2 a3 a4 a5 : Int32) : ∃ (z1 : Int64 × Dt) (z2 : Int64 × Dt), f_X8_luck L0 d 0 a1 a2 a3 a4 a5 = some z1 ∧ f_X9_luck L0 z1.2 78 a1 a2 a3 a4 a5 = some z2 ∧ z1.1 = z2.1 ∧ Inv z2.2 := by
  obtain ⟨hR, hG, -⟩ := id hI
  have h5 := hG.1.2
  have i1 : f_X9_in a1.toInt64 (0 : Int64) (10 : Int64) = f_X8_within a1 0 10 := in_w0 a1 10 (by omega) 10 rfl
  have i3 : f_X9_in a3.toInt64 (0 : Int64) (8 : Int64) = f_X8_within a3 0 8 := in_w0 a3 8 (by omega) 8 rfl
  have i5 : f_X9_isPart a5 = f_X8_within a5 0 1 := m_isPart a5
  -- refused
  have hno : (f_X8_within a1 0 10 = 0 ∨ f_X8_within a2 0 (d.1 79 37 - 1) = 0 ∨ f_X8_within a3 0 8 = 0 ∨ f_X8_within a4 0 99 = 0 ∨ f_X8_within a5 0 1 = 0) → f_X8_luck L0 d 0 a1 a2 a3 a4 a5 = some (-1, d) ∧ f_X9_luck L0 d 78 a1 a2 a3 a4 a5 = some (-1, d) := by
    intro h
    constructor
    · unfold f_X8_luck
      rw [isLuck_iff]
      by_cases h1 : f_X8_within a1 0 10 = 0
      · rw [if_pos h1, if_pos rfl]
      rw [if_neg h1]
      by_cases h3 : f_X8_within a3 0 8 = 0
      · rw [if_pos h3, if_pos rfl]
      rw [if_neg h3]
      by_cases h5 : f_X8_within a5 0 1 = 0
      · rw [if_pos h5, if_pos rfl]
      rw [if_neg h5, if_neg one_ne, X_world, Option.bind_some, W_cls isW3, if_pos rfl, x_has isW3 hR, Option.bind_some]
      by_cases h2 : f_X8_within a2 0 (d.1 79 37 - 1) = 0
      · rw [if_pos h2]
      rw [if_neg h2]
      by_cases h4 : f_X8_within a4 0 99 = 0
      · rw [if_pos h4]
      · rcases h with h | h | h | h | h <;> contradiction
    · unfold f_X9_luck
      rw [i1, M_cls, if_pos rfl, m_isChild, Option.bind_some, i3, m_isSkill, i5]
      by_cases h1 : f_X8_within a1 0 10 = 0
      · rw [if_pos h1]
      rw [if_neg h1]
      by_cases h2 : f_X8_within a2 0 (d.1 79 37 - 1) = 0
      · rw [if_pos h2]
      rw [if_neg h2]
      by_cases h3 : f_X8_within a3 0 8 = 0
      · rw [if_pos h3]
      rw [if_neg h3]
      by_cases h4 : f_X8_within a4 0 99 = 0
      · rw [if_pos h4]
      rw [if_neg h4]
      by_cases h5 : f_X8_within a5 0 1 = 0
      · rw [if_pos h5]
      · rcases h with h | h | h | h | h <;> contradiction
  by_cases h1 : f_X8_within a1 0 10 = 0
  · obtain ⟨x, y⟩ := hno (Or.inl h1); exact ⟨_, _, x, y, rfl, hI⟩
  by_cases h2 : f_X8_within a2 0 (d.1 79 37 - 1) = 0
  · obtain ⟨x, y⟩ := hno (Or.inr (Or.inl h2)); exact ⟨_, _, x, y, rfl, hI⟩
  by_cases h3 : f_X8_within a3 0 8 = 0
  · obtain ⟨x, y⟩ := hno (Or.inr (Or.inr (Or.inl h3))); exact ⟨_, _, x, y, rfl, hI⟩
  by_cases h4 : f_X8_within a4 0 99 = 0
  · obtain ⟨x, y⟩ := hno (Or.inr (Or.inr (Or.inr (Or.inl h4)))); exact ⟨_, _, x, y, rfl, hI⟩
  by_cases h5' : f_X8_within a5 0 1 = 0
  · obtain ⟨x, y⟩ := hno (Or.inr (Or.inr (Or.inr (Or.inr h5')))); exact ⟨_, _, x, y, rfl, hI⟩
  clear hno
  obtain ⟨v, hv, rfl⟩ := (wi0_iff 10 (by omega)).mp h1
  have h2' := h2
  rw [hG.1.1] at h2'
  obtain ⟨c, hc, rfl⟩ := (has_iff (by omega)).mp h2'
  obtain ⟨n, hn, rfl⟩ := (wi0_iff 8 (by omega)).mp h3
  obtain ⟨k, hk, rfl⟩ := (wi0_iff 99 (by omega)).mp h4
  obtain ⟨d0, e0, hR0, hB0⟩ := x_cp hI
  obtain ⟨d1, e1, hR1, hB1⟩ := x_pass (n := n) isW18 (by omega) hG hR0
  have hB := hB0.tr hB1
  have hR3 : RW d1 3 (d.1 79) := hR.mv (fun a _ _ => hB.1 a (by omega)) h5
  have hq8 := q_le8 (r := d.1 79) (c := c) hn
  obtain ⟨d2, s1, s2, s3⟩ := x_spread (v := v) (q := qN (d.1 79) c n) hv hq8 d1
  have hR3' : RW d2 3 (d.1 79) := hR3.mv (fun a _ _ => by rw [s1]) h5
  have hS2 : Sc d d2 := (Sc.bw hB).tr (Sc.e1 s1)
  have hst : ∀ j, j ≤ qN (d.1 79) c n → sN (d.1 79) c j ≤ 99 := fun j hj => s_le hG hc (fun ht => by have := q_t0 (r := d.1 79) (c := c) (n := n) ht; omega)
  have hx := x_luck_L (v5 := a5) hR3' hG hc hv hk hq8 q_t0 s2 hst FU 0 (by omega) (by unfold FU; omega)
  obtain ⟨D, m1, m2, m3, m4, m5⟩ := m_odds (v2 := nI c) (v4 := nI k) hI hS2 hn hv (Or.inr ⟨c, by omega, rfl⟩)
  have hn10 := ten8 hn
  obtain ⟨hA, hAb⟩ := lk_sum hG hc hv hn hk
  refine ⟨(prt (sumN (fun j => wy v (qN (d.1 79) c n) j * hBt k (sN (d.1 79) c j)) (qN (d.1 79) c n + 1)) (10 ^ qN (d.1 79) c n) a5, d2), (prt (sumN (fun s => wt v s n * aF (d.1 79) n (nI c) (nI k) s) (2 ^ n)) (10 ^ n) a5, D), ?_, ?_, ?_, hI.mv m1⟩
  · unfold f_X8_luck
    rw [isLuck_iff, if_neg h1, if_neg h3, if_neg h5', if_neg one_ne, X_world, Option.bind_some, W_cls isW3, if_pos rfl, x_has isW3 hR, Option.bind_some, if_neg h2, if_neg h4, X_trial, Option.bind_some, W_cls isW18, if_pos rfl, e0, Option.bind_some, e1, Option.bind_some, X_cls, if_pos rfl, x_less hR3 hG hR1 hc, Option.bind_some, X_odds, Option.bind_some, O_cls, if_pos rfl, s3, Option.bind_some]
    exact hx
  · show f_X9_luck L0 d2 78 (nI v) (nI c) (nI n) (nI k) a5 = _
    unfold f_X9_luck
    rw [i1, if_neg h1, M_cls, if_pos rfl, m_isChild, Option.bind_some, hS2.e79, if_neg h2, i3, if_neg h3, m_isSkill, if_neg h4, i5, if_neg h5', m5, Option.bind_some, m2, m4, m_told hAb (by omega) (Nat.pow_pos (by omega)), Option.bind_some]
  · show prt _ _ _ = prt _ _ _
    rw [hA, ten_split (r := d.1 79) (c := c) n, prt_mul (Nat.pow_pos (by omega))]
