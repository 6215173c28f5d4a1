/-! ===== runs, ahead, home, meet ===== -/
def alF : Nat → Int32 → Rw → Int32
  | 0, a, _ => a
  | k + 1, a, r => alF k (if livB r = 0 then a + 1 else a) (wk 0 r)
theorem x_runs_L {n : Nat} (hn : n < 900) {v2 : Int32} {k : Int32 → Int32 → Dt → Option (Int32 × Dt)} : ∀ (f c : Nat) (a : Int32) (d : Dt) (r : Rw), c ≤ n → n - c < f → Good r → RW d 18 r → ∃ d', RW d' 18 (wkN (n - c) r) ∧ Bw 18 d d' ∧ f_X8_runs_L34 L0 0 (nI n) v2 k f a (nI c) d = k (alF (n - c) a r) (nI n) d' := by
  intro f
  induction f with
  | zero => intro c a d r h1 h2; omega
  | succ f ih =>
    intro c a d r h1 h2 hG hR
    unfold f_X8_runs_L34
    by_cases hc : c = n
    · subst hc
      rw [if_pos (nI_le (Nat.le_refl _) (by omega)), Nat.sub_self]
      exact ⟨d, hR, Bw.rf, rfl⟩
    · obtain ⟨d1, e1, hR1, hB1⟩ := x_passOne isW18 hG hR
      rw [if_neg (nI_ge (show c < n by omega) (by omega)), X_trial, Option.bind_some, W_cls isW18, if_pos rfl, x_living isW18 hR hG, Option.bind_some, e1, nI_1, show n - c = (n - (c + 1)) + 1 by omega]
      obtain ⟨d2, hR2, hB2, e2⟩ := ih (c + 1) (if livB r = 0 then a + 1 else a) d1 (wk 0 r) (by omega) (by omega) hG.wk hR1
      refine ⟨d2, hR2, hB1.tr hB2, ?_⟩
      by_cases hl : livB r = 0
      · rw [if_pos hl, Option.bind_some]
        rw [if_pos hl] at e2
        rw [e2]
        show k (alF (n - (c + 1)) (a + 1) (wk 0 r)) (nI n) d2 = k (alF (n - (c + 1)) (if livB r = 0 then a + 1 else a) (wk 0 r)) (nI n) d2
        rw [if_pos hl]
      · rw [if_neg hl, Option.bind_some]
        rw [if_neg hl] at e2
        rw [e2]
        show k (alF (n - (c + 1)) a (wk 0 r)) (nI n) d2 = k (alF (n - (c + 1)) (if livB r = 0 then a + 1 else a) (wk 0 r)) (nI n) d2
        rw [if_neg hl]
theorem add0 (a : Int32) : a + (0 : Int32) = a := Int32.add_zero a
theorem m_runs_L {n : Nat} (hn : n < 900) {v2 : Int32} {k : Int32 → Int32 → Dt → Option (Int32 × Dt)} : ∀ (f c : Nat) (a : Int32) (d : Dt) (r : Rw), c ≤ n → n - c < f → Good r → Eq60 (d.1 80) r → ∃ d', Eq60 (d'.1 80) (wkN (n - c) r) ∧ Bn d d' ∧ f_X9_runs_L30 L0 78 (nI n) v2 k f a (nI c) d = k (alF (n - c) a r) (nI n) d' := by
  intro f
  induction f with
  | zero => intro c a d r h1 h2; omega
  | succ f ih =>
    intro c a d r h1 h2 hG hR
    unfold f_X9_runs_L30
    by_cases hc : c = n
    · subst hc
      rw [if_pos (nI_le (Nat.le_refl _) (by omega)), Nat.sub_self]
      exact ⟨d, hR, Bn.rf, rfl⟩
    · obtain ⟨d1, e1, hR1, hB1⟩ := m_wk hR hG 0
      rw [if_neg (nI_ge (show c < n by omega) (by omega)), M_cls, if_pos rfl, m_liv hR hG, Option.bind_some, e1, fl1, fl0, add0, nI_1, show n - c = (n - (c + 1)) + 1 by omega]
      obtain ⟨d2, hR2, hB2, e2⟩ := ih (c + 1) (if livB r = 0 then a + 1 else a) d1 (wk 0 r) (by omega) (by omega) hG.wk hR1
      refine ⟨d2, hR2, hB1.tr hB2, ?_⟩
      by_cases hl : livB r = 0
      · rw [if_pos hl, Option.bind_some]
        rw [if_pos hl] at e2
        rw [e2]
        show k (alF (n - (c + 1)) (a + 1) (wk 0 r)) (nI n) d2 = k (alF (n - (c + 1)) (if livB r = 0 then a + 1 else a) (wk 0 r)) (nI n) d2
        rw [if_pos hl]
      · rw [if_neg hl, Option.bind_some]
        rw [if_neg hl] at e2
        rw [e2]
        show k (alF (n - (c + 1)) a (wk 0 r)) (nI n) d2 = k (alF (n - (c + 1)) (if livB r = 0 then a + 1 else a) (wk 0 r)) (nI n) d2
        rw [if_neg hl]
theorem mo80_38 : okA L0 80 1 (38 : Int32) = true := Mo_now (j := 38) (by omega)
theorem st_runs {d : Dt} (hI : Inv d) (a1 a2 : Int32) : ∃ (z1 : Int32 × Dt) (z2 : Int32 × Dt), f_X8_runs L0 d 0 a1 a2 = some z1 ∧ f_X9_runs L0 z1.2 78 a1 a2 = some z2 ∧ z1.1 = z2.1 ∧ Inv z2.2 := by
  obtain ⟨hR, hG, -⟩ := id hI
  have hin : f_X9_in a2.toInt64 (0 : Int64) (4 : Int64) = f_X8_within a2 0 4 := in_w0 a2 4 (by omega) 4 rfl
  by_cases h : f_X8_isRun a1 = 0
  · exact ⟨(-1, d), (-1, d), by unfold f_X8_runs; rw [if_pos h], by unfold f_X9_runs; rw [m_isFar, if_pos h], rfl, hI⟩
  by_cases h2 : f_X8_within a2 0 4 = 0
  · exact ⟨(-1, d), (-1, d), by unfold f_X8_runs; rw [if_neg h, if_pos h2], by unfold f_X9_runs; rw [m_isFar, if_neg h, hin, if_pos h2], rfl, hI⟩
  obtain ⟨n, hn, rfl⟩ := run_iff.mp h
  obtain ⟨d0, e0, hR0, hB0⟩ := x_cp hI
  have hx : ∀ k : Int32 → Int32 → Dt → Option (Int32 × Dt), ∃ d', RW d' 18 (wkN n (d.1 79)) ∧ Bw 18 d0 d' ∧ f_X8_runs_L34 L0 0 (nI n) a2 k FU 0 0 d0 = k (alF n 0 (d.1 79)) (nI n) d' := fun k => x_runs_L (k := k) (n := n) (by omega) FU 0 0 d0 (d.1 79) (by omega) (by unfold FU; omega) hG hR0
  unfold f_X8_runs
  simp only [if_neg h, if_neg h2, X_trial, X_world, Option.bind_some, W_cls isW18, if_true, e0]
  obtain ⟨d1, hR1, hB1, e1⟩ := hx (fun x14_3 x14_4 d14 => if a2 = 0 then Option.bind (f_X7_skillSum L0 d14 18) fun z16 => some (z16, d14) else if a2 = 1 then Option.bind (f_X7_freeOnes L0 d14 18) fun z18 => some (z18, d14) else if a2 = 2 then some (x14_3, d14) else if a2 = 3 then Option.bind (f_X7_ageSum L0 d14 18) fun z21 => some (z21, d14) else some (d14.1 18 3, d14))
  rw [e1]
  have hB : Bw 18 d d1 := hB0.tr hB1
  have hG1 := hG.wkN n
  have hE : Eq60 ((sd d1).1 80) (d.1 79) := by rw [← bw79 hB]; exact sd_80
  have hm : ∀ k : Int32 → Int32 → Dt → Option (Int32 × Dt), ∃ d', Eq60 (d'.1 80) (wkN n (d.1 79)) ∧ Bn (sd d1) d' ∧ f_X9_runs_L30 L0 78 (nI n) a2 k FU 0 0 (sd d1) = k (alF n 0 (d.1 79)) (nI n) d' := fun k => m_runs_L (k := k) (n := n) (by omega) FU 0 0 (sd d1) (d.1 79) (by omega) (by unfold FU; omega) hG hE
  have mm : ∃ D v, f_X9_runs L0 d1 78 (nI n) a2 = some (v, D) ∧ Bn (sd d1) D ∧ v = if a2 = 0 then sumK 3 (wkN n (d.1 79)) else if a2 = 1 then freB (wkN n (d.1 79)) else if a2 = 2 then alF n 0 (d.1 79) else if a2 = 3 then sumK 4 (wkN n (d.1 79)) else wkN n (d.1 79) 38 := by
    unfold f_X9_runs
    simp only [m_isFar, if_neg h, hin, if_neg h2, M_cls, if_true, sd_st, Option.bind_some]
    obtain ⟨D, hE1, hB2, e2⟩ := hm (fun x11_3 x11_4 d11 => if a2 = 0 then Option.bind (f_X9_sumOf L0 d11 78 3) fun z13 => some (z13, d11) else if a2 = 1 then Option.bind (f_X9_freeNow L0 d11 78) fun z15 => some (z15, d11) else if a2 = 2 then some (x11_3, d11) else if a2 = 3 then Option.bind (f_X9_sumOf L0 d11 78 4) fun z18 => some (z18, d11) else Option.bind (rf L0 78 9 1) fun q19 => if okA L0 q19 1 38 = true then some (d11.1 q19 (38 : Int32).toNatClampNeg, d11) else none)
    rw [e2]
    simp only [show f_X9_sumOf L0 D 78 (3 : Int32) = _ from m_sum (k := 3) hE1 hG1 (by omega), show f_X9_sumOf L0 D 78 (4 : Int32) = _ from m_sum (k := 4) hE1 hG1 (by omega), m_fre hE1 hG1, M_now, Option.bind_some, mo80_38, if_true, t38, hE1 38 (by omega)]
    refine ⟨D, _, ?_, hB2, rfl⟩
    by_cases c0 : a2 = 0
    · simp only [if_pos c0]
    · simp only [if_neg c0]
      by_cases c1 : a2 = 1
      · simp only [if_pos c1]
      · simp only [if_neg c1]
        by_cases c2 : a2 = 2
        · simp only [if_pos c2]
        · simp only [if_neg c2]
          by_cases c3 : a2 = 3
          · simp only [if_pos c3]
          · simp only [if_neg c3]
  obtain ⟨D, v, em, hB2, ev⟩ := mm
  have hI2 : Inv D := hI.q hB (sd_bn.tr hB2)
  rw [x_skillSum isW18 hR1 hG1, x_freeOnes isW18 hR1 hG1, x_ageSum isW18 hR1 hG1, hR1.1.2.1]
  simp only [Option.bind_some]
  refine ⟨(v, d1), (v, D), ?_, em, rfl, hI2⟩
  rw [ev]
  by_cases c0 : a2 = 0
  · simp only [if_pos c0]
  · simp only [if_neg c0]
    by_cases c1 : a2 = 1
    · simp only [if_pos c1]
    · simp only [if_neg c1]
      by_cases c2 : a2 = 2
      · simp only [if_pos c2]
      · simp only [if_neg c2]
        by_cases c3 : a2 = 3
        · simp only [if_pos c3]
        · simp only [if_neg c3]
theorem wi2 {a : Int32} (h : ¬ f_X8_within a 0 2 = 0) : a = 0 ∨ a = 1 ∨ a = 2 := by
  obtain ⟨k, hk, rfl⟩ := (wi0_iff 2 (by omega)).mp h
  rcases (show k = 0 ∨ k = 1 ∨ k = 2 by omega) with rfl | rfl | rfl
  · exact Or.inl rfl
  · exact Or.inr (Or.inl rfl)
  · exact Or.inr (Or.inr rfl)
theorem st_ahead {d : Dt} (hI : Inv d) (a1 a2 a3 : Int32) : ∃ (z1 : Int32 × Dt) (z2 : Int32 × Dt), f_X8_ahead L0 d 0 a1 a2 a3 = some z1 ∧ f_X9_ahead L0 z1.2 78 a1 a2 a3 = some z2 ∧ z1.1 = z2.1 ∧ Inv z2.2 := by
  obtain ⟨hR, hG, -⟩ := id hI
  have h5 := hG.1.2
  have hin : f_X9_in a3.toInt64 (0 : Int64) (2 : Int64) = f_X8_within a3 0 2 := in_w0 a3 2 (by omega) 2 rfl
  unfold f_X8_ahead
  simp only [X_world, Option.bind_some, W_cls isW3, if_true, x_has isW3 hR]
  by_cases h : f_X8_within a1 0 (d.1 79 37 - 1) = 0
  · exact ⟨(-1, d), (-1, d), by rw [if_pos h], by unfold f_X9_ahead; rw [M_cls, if_pos rfl, m_isChild, Option.bind_some, if_pos h], rfl, hI⟩
  by_cases h2 : f_X8_isRun a2 = 0
  · exact ⟨(-1, d), (-1, d), by rw [if_neg h, if_pos h2], by unfold f_X9_ahead; rw [M_cls, if_pos rfl, m_isChild, Option.bind_some, if_neg h, m_isFar, if_pos h2], rfl, hI⟩
  by_cases h3 : f_X8_within a3 0 2 = 0
  · exact ⟨(-1, d), (-1, d), by rw [if_neg h, if_neg h2, if_pos h3], by unfold f_X9_ahead; rw [M_cls, if_pos rfl, m_isChild, Option.bind_some, if_neg h, m_isFar, if_neg h2, hin, if_pos h3], rfl, hI⟩
  obtain ⟨n, hn, rfl⟩ := run_iff.mp h2
  have h' := h
  rw [hG.1.1] at h'
  obtain ⟨c, hc, rfl⟩ := (has_iff (by omega)).mp h'
  have hc5 : c < 5 := by omega
  obtain ⟨d0, e0, hR0, hB0⟩ := x_cp hI
  obtain ⟨d1, e1, hR1, hB1⟩ := x_pass (n := n) isW18 (by omega) hG hR0
  have hB : Bw 18 d d1 := hB0.tr hB1
  have hG1 := hG.wkN n
  have hE : Eq60 ((sd d1).1 80) (d.1 79) := by rw [← bw79 hB]; exact sd_80
  obtain ⟨D, e2, hE1, hB2⟩ := m_wkN (n := n) hE hG (by omega)
  have hK := hR1.2.2.1 c (by rw [wkN_nk h5]; exact hc)
  have hI2 : Inv D := hI.q hB (sd_bn.tr hB2)
  simp only [if_neg h, if_neg h2, if_neg h3, X_trial, Option.bind_some, W_cls isW18, if_true, e0, e1, W_ch isW18, W_rac isW18 hc5, W_ccl isW18 hc5]
  have mx : ∀ z, f_X9_ahead L0 d1 78 (nI c) (nI n) a3 = z ↔ (if a3 = 0 then Option.bind (f_X9_of L0 D 78 (nI c) 3) fun z12 => some (z12, D) else if a3 = 1 then Option.bind (f_X9_of L0 D 78 (nI c) 4) fun z11 => some (z11, D) else Option.bind (f_X9_of L0 D 78 (nI c) 2) fun z10 => some (z10, D)) = z := by
    intro z
    unfold f_X9_ahead
    rw [M_cls, if_pos rfl, m_isChild, Option.bind_some, bw79 hB, if_neg h, m_isFar, if_neg h2, hin, if_neg h3, sd_st, Option.bind_some, e2, Option.bind_some]
  rcases wi2 h3 with rfl | rfl | rfl
  · rw [if_pos rfl]
    refine ⟨_, (wkN n (d.1 79) (12 + 5 * c + 3), D), rfl, (mx _).mpr ?_, hK.2.2.1, hI2⟩
    rw [if_pos rfl, show f_X9_of L0 D 78 (nI c) 3 = _ from m_ofr (k := 3) hE1 hc5 (by omega), Option.bind_some]
  · rw [if_neg (by decide), if_pos rfl]
    refine ⟨_, (wkN n (d.1 79) (12 + 5 * c + 4), D), rfl, (mx _).mpr ?_, hK.2.2.2.1, hI2⟩
    rw [if_neg (by decide), if_pos rfl, show f_X9_of L0 D 78 (nI c) 4 = _ from m_ofr (k := 4) hE1 hc5 (by omega), Option.bind_some]
  · rw [if_neg (by decide), if_neg (by decide)]
    refine ⟨_, (wkN n (d.1 79) (12 + 5 * c + 2), D), rfl, (mx _).mpr ?_, hK.2.1, hI2⟩
    rw [if_neg (by decide), if_neg (by decide), show f_X9_of L0 D 78 (nI c) 2 = _ from m_ofr (k := 2) hE1 hc5 (by omega), Option.bind_some]
