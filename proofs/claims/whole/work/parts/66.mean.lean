/-! ===== mean ===== -/
def eN (v n : Nat) (r : Rw) (c : Nat) : Nat := sumN (fun j => wy v (qN r c n) j * sN r c j) (qN r c n + 1) * 10 ^ (n - qN r c n)
theorem eN_le {r : Rw} (hG : Good r) {c v n : Nat} (hc : c < nk r) (hv : v ≤ 10) (hn : n ≤ 8) : eN v n r c ≤ 89100000000 := by
  have hbd := lk_b hv (q_le8 (r := r) (c := c) hn) (fun j => sN r c j) (B := 99) (fun j hj => s_le hG hc (fun ht => by have := q_t0 (r := r) (c := c) (n := n) ht; omega))
  have h9 := Nat.mul_le_mul_right (10 ^ (n - qN r c n)) hbd
  have h10 : 9 * (10 ^ qN r c n * 99) * 10 ^ (n - qN r c n) = 891 * 10 ^ n := by
    rw [ten_split (r := r) (c := c) n, Nat.mul_comm (10 ^ qN r c n) 99, ← Nat.mul_assoc, Nat.mul_assoc (9 * 99), Nat.mul_comm (10 ^ qN r c n)]
  rw [h10] at h9
  exact Nat.le_trans h9 (Nat.le_trans (Nat.mul_le_mul_left 891 (ten8 hn)) (by omega))
theorem x_over_L {d : Dt} {r : Rw} (hR : RW d 3 r) (hG : Good r) {c v q : Nat} (hc : c < nk r) (hq : q ≤ 8) (h0 : tN r c = 0 → q = 0) (hw : ∀ j, j < 9 → d.2 39 j = lN (wy v q j)) (hs : ∀ j, j ≤ q → sN r c j ≤ 99) : ∀ (f j : Nat), j ≤ q + 1 → q + 1 - j < f → f_X8_skillOverLuck_L15 L0 d 0 (nI c) (nI q) f (lN (sumN (fun j => wy v q j * sN r c j) j)) (nI j) = some (lN (sumN (fun j => wy v q j * sN r c j) (q + 1)), d) := by
  intro f
  induction f with
  | zero => intro j h1 h2; omega
  | succ f ih =>
    intro j h1 h2
    unfold f_X8_skillOverLuck_L15
    by_cases hj : j < q + 1
    · have hsj := hs j (by omega)
      have ihj := ih (j + 1) (by omega) (by omega)
      have es : sumN (fun j => wy v q j * sN r c j) (j + 1) = sumN (fun j => wy v q j * sN r c j) j + wy v q j * sN r c j := rfl
      rw [es] at ihj
      rw [if_neg (fun z => by have := (nI_ltI (a := q) (b := j) (by omega) (by omega)).mp z; omega), X_odds, Option.bind_some, O_cls, if_pos rfl, x_of (by omega), Option.bind_some, X_world, Option.bind_some, W_cls isW3, if_pos rfl, x_sbl hR hG hc (by omega) (fun ht => by have := h0 ht; omega), Option.bind_some, hw j (by omega), nI_l (by omega), lN_mul, lN_add, nI_1, ihj]
    · have : j = q + 1 := by omega
      subst this
      rw [if_pos (nI_lt (by omega) (by omega))]
theorem x_mean_L {D0 : Dt} {r : Rw} (hG : Good r) {v n : Nat} {v3 : Int32} (hR : RW D0 3 r) (hT : RW D0 18 (wkN n r)) (hv : v ≤ 10) (hn : n ≤ 8) : ∀ (f c : Nat) (d : Dt), c ≤ nk r → nk r - c < f → d.1 = D0.1 → ∃ D, D.1 = D0.1 ∧ f_X8_mean_L38 L0 0 (nI v) (nI n) v3 f (lN (sumN (eN v n r) c)) (nI c) d = some (prt (sumN (eN v n r) (nk r)) (10 ^ n) v3, D) := by
  have h5 := hG.1.2
  have h10 := ten8 hn
  intro f
  induction f with
  | zero => intro c d h1 h2; omega
  | succ f ih =>
    intro c d h1 h2 e
    have hRd : RW d 3 r := hR.mv (fun a _ _ => by rw [e]) h5
    have hTd : RW d 18 (wkN n r) := hT.mv (fun a _ _ => by rw [e]) (by rw [wkN_nk h5]; exact h5)
    unfold f_X8_mean_L38
    rw [X_world, Option.bind_some, W_cls isW3, if_pos rfl]
    by_cases hc : c < nk r
    · have hq8 := q_le8 (r := r) (c := c) hn
      have hqn : qN r c n ≤ n := (cq_le (S := seN r) (b := bN r c) (t := tN r c) n).2
      obtain ⟨d1, s1, s2, s3⟩ := x_spread (v := v) (q := qN r c n) hv hq8 d
      have hR1 : RW d1 3 r := hRd.mv (fun a _ _ => by rw [s1]) h5
      have hov := x_over_L hR1 hG hc hq8 q_t0 s2 (fun j hj => s_le hG hc (fun ht => by have := q_t0 (r := r) (c := c) (n := n) ht; omega)) FU 0 (by omega) (by unfold FU; omega)
      obtain ⟨D, hD, hq⟩ := ih (c + 1) d1 (by omega) (by omega) (s1.trans e)
      refine ⟨D, hD, ?_⟩
      have hsk : f_X8_skillOverLuck L0 d 0 (nI v) (nI c) (nI (qN r c n)) = some (lN (sumN (fun j => wy v (qN r c n) j * sN r c j) (qN r c n + 1)), d1) := by
        unfold f_X8_skillOverLuck
        rw [X_odds, Option.bind_some, O_cls, if_pos rfl, s3, Option.bind_some]
        exact hov
      rw [if_neg (fun z => by have := (x_le hRd hG (c := c) (by omega)).mp z; omega), X_cls, if_pos rfl, x_less hRd hG hTd hc, Option.bind_some, hsk, Option.bind_some, nI_sub hqn, x_ten (by omega), Option.bind_some, lN_mul, lN_add, nI_1]
      exact hq
    · have : c = nk r := by omega
      subst this
      have hb := sumN_le (f := eN v n r) (B := 89100000000) (nk r) (fun i hi => eN_le hG hi hv hn)
      have hb2 : nk r * 89100000000 ≤ 5 * 89100000000 := Nat.mul_le_mul_right _ h5
      rw [if_pos ((x_le hRd hG (c := nk r) (by omega)).mpr (by omega)), x_ten (by omega), Option.bind_some, x_part (by omega) (by omega) (Nat.pow_pos (by omega)), Option.bind_some]
      exact ⟨d, e, rfl⟩
theorem mean_sum {r : Rw} (hG : Good r) {v n : Nat} (hv : v ≤ 10) : sumN (fun s => wt v s n * pF r n s) (2 ^ n) = sumN (eN v n r) (nk r) := by
  have e1 : sumN (fun s => wt v s n * pF r n s) (2 ^ n) = sumN (fun s => sumN (fun c => wt v s n * sN r c (jN r (ofb s) c n)) (nk r)) (2 ^ n) := sumN_congr _ (fun s _ => by rw [sumN_mul]; rfl)
  rw [e1, sumN_swap]
  refine sumN_congr _ (fun c _ => ?_)
  have hp := pat_sum (S := seN r) (b := bN r c) (t := tN r c) hv n (fun j => sN r c j)
  unfold eN
  rw [Nat.mul_comm]
  exact hp
theorem st_mean {d : Dt} (hI : Inv d) (a1 a2 a3 : Int32) : ∃ (z1 : Int64 × Dt) (z2 : Int64 × Dt), f_X8_mean L0 d 0 a1 a2 a3 = some z1 ∧ f_X9_mean L0 z1.2 78 a1 a2 a3 = some z2 ∧ z1.1 = z2.1 ∧ Inv z2.2 := by
  obtain ⟨hR, hG, -⟩ := id hI
  have h5 := hG.1.2
  have i1 : f_X9_in a1.toInt64 (0 : Int64) (10 : Int64) = f_X8_within a1 0 10 := in_w0 a1 10 (by omega) 10 rfl
  have i2 : f_X9_in a2.toInt64 (0 : Int64) (8 : Int64) = f_X8_within a2 0 8 := in_w0 a2 8 (by omega) 8 rfl
  have i3 : f_X9_isPart a3 = f_X8_within a3 0 1 := m_isPart a3
  by_cases h1 : f_X8_within a1 0 10 = 0
  · exact ⟨(-1, d), (-1, d), by unfold f_X8_mean; rw [isLuck_iff, if_pos h1, if_pos rfl], by unfold f_X9_mean; rw [i1, if_pos h1], rfl, hI⟩
  by_cases h2 : f_X8_within a2 0 8 = 0
  · exact ⟨(-1, d), (-1, d), by unfold f_X8_mean; rw [isLuck_iff, if_neg h1, if_pos h2, if_pos rfl], by unfold f_X9_mean; rw [i1, if_neg h1, i2, if_pos h2], rfl, hI⟩
  by_cases h3 : f_X8_within a3 0 1 = 0
  · exact ⟨(-1, d), (-1, d), by unfold f_X8_mean; rw [isLuck_iff, if_neg h1, if_neg h2, if_pos h3, if_pos rfl], by unfold f_X9_mean; rw [i1, if_neg h1, i2, if_neg h2, i3, if_pos h3], rfl, hI⟩
  obtain ⟨v, hv, rfl⟩ := (wi0_iff 10 (by omega)).mp h1
  obtain ⟨n, hn, rfl⟩ := (wi0_iff 8 (by omega)).mp h2
  obtain ⟨d0, e0, hR0, hB0⟩ := x_cp hI
  obtain ⟨d1, e1, hR1, hB1⟩ := x_pass (n := n) isW18 (by omega) hG hR0
  have hB := hB0.tr hB1
  have hR3 : RW d1 3 (d.1 79) := hR.mv (fun a _ _ => hB.1 a (by omega)) h5
  obtain ⟨d2, hD2, hx⟩ := x_mean_L (v3 := a3) hG hR3 hR1 hv hn FU 0 d1 (by omega) (by unfold FU; omega) rfl
  have hS2 : Sc d d2 := (Sc.bw hB).tr (Sc.e1 hD2)
  obtain ⟨D, m1, m2, m3, m4, m5⟩ := m_odds (v2 := -4) (v4 := 0) hI hS2 hn hv (Or.inl rfl)
  have hms := mean_sum hG (v := v) (n := n) hv
  have h10 := ten8 hn
  have hb := sumN_le (f := eN v n (d.1 79)) (B := 89100000000) (nk (d.1 79)) (fun i hi => eN_le hG hi hv hn)
  have hb2 : nk (d.1 79) * 89100000000 ≤ 5 * 89100000000 := Nat.mul_le_mul_right _ h5
  refine ⟨(prt (sumN (eN v n (d.1 79)) (nk (d.1 79))) (10 ^ n) a3, d2), (prt (sumN (eN v n (d.1 79)) (nk (d.1 79))) (10 ^ n) a3, D), ?_, ?_, rfl, hI.mv m1⟩
  · unfold f_X8_mean
    rw [isLuck_iff, if_neg h1, if_neg h2, if_neg h3, if_neg one_ne, X_trial, Option.bind_some, X_world, Option.bind_some, W_cls isW18, if_pos rfl, e0, Option.bind_some, e1, Option.bind_some]
    exact hx
  · show f_X9_mean L0 d2 78 (nI v) (nI n) a3 = _
    unfold f_X9_mean
    rw [i1, if_neg h1, i2, if_neg h2, i3, if_neg h3, M_cls, if_pos rfl, m5, Option.bind_some, m3, m4, hms, m_told (by omega) (by omega) (Nat.pow_pos (by omega)), Option.bind_some]
