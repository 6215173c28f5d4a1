/-! ===== calls that tell ===== -/
theorem mo37 : okA L0 79 1 (37 : Int32) = true := Mo_st (j := 37) (by omega)
theorem t37 : ((37 : Int32)).toNatClampNeg = 37 := rfl
theorem mo38 : okA L0 79 1 (38 : Int32) = true := Mo_st (j := 38) (by omega)
theorem t38 : ((38 : Int32)).toNatClampNeg = 38 := rfl
theorem mo39 : okA L0 79 1 (39 : Int32) = true := Mo_st (j := 39) (by omega)
theorem t39 : ((39 : Int32)).toNatClampNeg = 39 := rfl
theorem mo40 : okA L0 79 1 (40 : Int32) = true := Mo_st (j := 40) (by omega)
theorem t40 : ((40 : Int32)).toNatClampNeg = 40 := rfl
theorem mo41 : okA L0 79 1 (41 : Int32) = true := Mo_st (j := 41) (by omega)
theorem t41 : ((41 : Int32)).toNatClampNeg = 41 := rfl
theorem st_fault {d : Dt} (hI : Inv d) : ∃ (z1 : Int32) (z2 : Int32), f_X8_fault L0 d 0 = some z1 ∧ f_X9_fault L0 d 78 = some z2 ∧ z1 = z2 ∧ Inv d :=
  ⟨d.1 0 9, d.1 78 11, by unfold f_X8_fault; rw [X_cls, if_pos rfl], by unfold f_X9_fault; rw [M_cls, if_pos rfl], hI.2.2.2.2.1, hI⟩
theorem st_torn {d : Dt} (hI : Inv d) : ∃ (z1 : Int32) (z2 : Int32), f_X8_torn L0 d 0 = some z1 ∧ f_X9_torn L0 d 78 = some z2 ∧ z1 = z2 ∧ Inv d :=
  ⟨d.1 0 10, d.1 78 23, by unfold f_X8_torn; rw [X_cls, if_pos rfl], by unfold f_X9_torn; rw [M_cls, if_pos rfl], hI.2.2.2.2.2.1, hI⟩
theorem st_rule {d : Dt} (hI : Inv d) (a1 : Int32) : ∃ (z1 : Int32) (z2 : Int32 × Dt), f_X8_rule L0 d 0 a1 = some z1 ∧ f_X9_rule L0 d 78 a1 = some z2 ∧ z1 = z2.1 ∧ Inv z2.2 := by
  obtain ⟨hR, hG, -⟩ := id hI
  have hG2 := sd_good (d := d) hG
  have h5 := hG.1.2
  have hI2 := hI.mv sd_sc
  have e79 : (sd d).1 79 = d.1 79 := sd_ne (by omega)
  unfold f_X8_rule f_X9_rule
  simp only [X_world, Option.bind_some, W_cls isW3, if_true, M_cls, sd_st, M_st, mo37, mo38, mo39, mo40, t37, t38, t39, t40, e79, x_living isW3 hR hG, m_livingNow hG2.1.1 hG2.1.2, x_skillSum isW3 hR hG, show f_X9_sumOf L0 (sd d) 78 (3 : Int32) = _ from m_sumOf (k := 3) hG2.1.1 hG2.1.2 (by omega)]
  by_cases c0 : a1 = 0
  · simp only [if_pos c0]; exact ⟨_, _, rfl, rfl, hR.1.1, hI2⟩
  simp only [if_neg c0]
  by_cases c1 : a1 = 1
  · simp only [if_pos c1]; exact ⟨_, _, rfl, rfl, hR.1.2.2.2.1, hI2⟩
  simp only [if_neg c1]
  by_cases c2 : a1 = 2
  · simp only [if_pos c2]; exact ⟨_, _, rfl, rfl, hR.1.2.1, hI2⟩
  simp only [if_neg c2]
  by_cases c3 : a1 = 3
  · simp only [if_pos c3]; exact ⟨_, _, rfl, rfl, hR.1.2.2.1, hI2⟩
  simp only [if_neg c3]
  by_cases c4 : a1 = 4
  · simp only [if_pos c4]; exact ⟨_, _, rfl, rfl, livB_eq60 sd_80.sy h5, hI2⟩
  simp only [if_neg c4]
  by_cases c5 : a1 = 5
  · simp only [if_pos c5]; exact ⟨_, _, rfl, rfl, sumK_eq60 sd_80.sy h5 (by omega), hI2⟩
  simp only [if_neg c5]
  exact ⟨_, _, rfl, rfl, rfl, hI2⟩
theorem wi5 {a : Int32} (h : ¬ f_X8_within a 0 5 = 0) : a = 0 ∨ a = 1 ∨ a = 2 ∨ a = 3 ∨ a = 4 ∨ a = 5 := by
  obtain ⟨k, hk, rfl⟩ := (wi0_iff 5 (by omega)).mp h
  rcases (show k = 0 ∨ k = 1 ∨ k = 2 ∨ k = 3 ∨ k = 4 ∨ k = 5 by omega) with rfl | rfl | rfl | rfl | rfl | rfl
  · exact Or.inl rfl
  · exact Or.inr (Or.inl rfl)
  · exact Or.inr (Or.inr (Or.inl rfl))
  · exact Or.inr (Or.inr (Or.inr (Or.inl rfl)))
  · exact Or.inr (Or.inr (Or.inr (Or.inr (Or.inl rfl))))
  · exact Or.inr (Or.inr (Or.inr (Or.inr (Or.inr rfl))))
theorem wi3 {a : Int32} (h : ¬ f_X8_within a 0 3 = 0) : a = 0 ∨ a = 1 ∨ a = 2 ∨ a = 3 := by
  obtain ⟨k, hk, rfl⟩ := (wi0_iff 3 (by omega)).mp h
  rcases (show k = 0 ∨ k = 1 ∨ k = 2 ∨ k = 3 by omega) with rfl | rfl | rfl | rfl
  · exact Or.inl rfl
  · exact Or.inr (Or.inl rfl)
  · exact Or.inr (Or.inr (Or.inl rfl))
  · exact Or.inr (Or.inr (Or.inr rfl))
theorem wn5 {a : Int32} (h : f_X8_within a 0 5 = 0) : ¬ a = 0 ∧ ¬ a = 1 ∧ ¬ a = 2 ∧ ¬ a = 3 ∧ ¬ a = 4 ∧ ¬ a = 5 := by
  refine ⟨?_, ?_, ?_, ?_, ?_, ?_⟩ <;> (intro e; subst e; revert h; decide)
theorem wn3 {a : Int32} (h : f_X8_within a 0 3 = 0) : ¬ a = 0 ∧ ¬ a = 1 ∧ ¬ a = 2 ∧ ¬ a = 3 := by
  refine ⟨?_, ?_, ?_, ?_⟩ <;> (intro e; subst e; revert h; decide)
theorem st_child {d : Dt} (hI : Inv d) (a1 a2 : Int32) : ∃ (z1 : Int32) (z2 : Int32 × Dt), f_X8_child L0 d 0 a1 a2 = some z1 ∧ f_X9_child L0 d 78 a1 a2 = some z2 ∧ z1 = z2.1 ∧ Inv z2.2 := by
  obtain ⟨hR, hG, -⟩ := id hI
  have hG2 := sd_good (d := d) hG
  have h5 := hG.1.2
  have hI2 := hI.mv sd_sc
  unfold f_X8_child f_X9_child
  simp only [X_world, Option.bind_some, W_cls isW3, if_true, x_has isW3 hR, M_cls, m_isChild, show f_X9_in a2.toInt64 (0 : Int64) (5 : Int64) = f_X8_within a2 0 5 from in_w0 a2 5 (by omega) 5 rfl]
  by_cases h : f_X8_within a1 0 (d.1 79 37 - 1) = 0
  · simp only [if_pos h]
    exact ⟨_, _, rfl, rfl, rfl, hI⟩
  · simp only [if_neg h]
    rw [hG.1.1] at h
    obtain ⟨c, hc, rfl⟩ := (has_iff (by omega)).mp h
    have hc5 : c < 5 := by omega
    have hK := hR.2.2.1 c hc
    have hg := hG.2.2.2.2.2.2.1 c hc
    have e1 : (sd d).1 80 (12 + 5 * c + 1) = d.1 79 (12 + 5 * c + 1) := sd_80 _ (by omega)
    simp only [W_ch isW3, Option.bind_some, W_rac isW3 hc5, W_ccl isW3 hc5, if_true, x_isFree isW3 hR hG hc, sd_st, m_isFree hc5, e1]
    by_cases hw : f_X8_within a2 0 5 = 0
    · obtain ⟨n0, n1, n2, n3, n4, n5⟩ := wn5 hw
      simp only [if_pos hw, if_neg n0, if_neg n1, if_neg n2, if_neg n3, if_neg n4, if_neg n5]
      exact ⟨_, _, rfl, rfl, rfl, hI⟩
    · simp only [if_neg hw]
      have hof : ∀ k, k < 5 → f_X9_of L0 (sd d) 78 (nI c) (nI k) = some (d.1 79 (12 + 5 * c + k)) := fun k hk => by rw [m_of hc5 hk, sd_80 _ (by omega)]
      rcases wi5 hw with rfl | rfl | rfl | rfl | rfl | rfl
      · rw [if_pos rfl, if_neg (by decide), show f_X9_of L0 (sd d) 78 (nI c) 0 = _ from hof 0 (by omega)]
        exact ⟨_, _, rfl, rfl, hK.1, hI2⟩
      · rw [if_neg (by decide), if_pos rfl, if_neg (show ¬ (5 : Int32) ≤ 1 by decide), show f_X9_of L0 (sd d) 78 (nI c) 1 = _ from hof 1 (by omega)]
        by_cases hb : d.1 79 (12 + 5 * c + 1) = -4
        · rw [if_pos hb, if_neg one_ne]
          exact ⟨_, _, rfl, rfl, hb.symm, hI2⟩
        · rw [if_neg hb, if_pos rfl]
          exact ⟨_, _, rfl, rfl, hK.bnd hg hb, hI2⟩
      · rw [if_neg (by decide), if_neg (by decide), if_pos rfl, if_neg (by decide), show f_X9_of L0 (sd d) 78 (nI c) 2 = _ from hof 2 (by omega)]
        exact ⟨_, _, rfl, rfl, hK.2.1, hI2⟩
      · rw [if_neg (by decide), if_neg (by decide), if_neg (by decide), if_pos rfl, if_neg (by decide), show f_X9_of L0 (sd d) 78 (nI c) 3 = _ from hof 3 (by omega)]
        exact ⟨_, _, rfl, rfl, hK.2.2.1, hI2⟩
      · rw [if_neg (by decide), if_neg (by decide), if_neg (by decide), if_neg (by decide), if_pos rfl, if_neg (by decide), show f_X9_of L0 (sd d) 78 (nI c) 4 = _ from hof 4 (by omega)]
        exact ⟨_, _, rfl, rfl, hK.2.2.2.1, hI2⟩
      · rw [if_neg (by decide), if_neg (by decide), if_neg (by decide), if_neg (by decide), if_neg (by decide), if_pos rfl, if_pos (show (5 : Int32) ≤ 5 by decide)]
        by_cases hb : d.1 79 (12 + 5 * c + 1) = -4
        · simp only [if_pos hb, if_neg one_ne]
          exact ⟨_, _, rfl, rfl, rfl, hI2⟩
        · simp only [if_neg hb, if_true]
          obtain ⟨k, b, t, x, a, hn⟩ := hg.kn
          have ht : 0 < t := by
            rcases Nat.eq_zero_or_pos t with h0 | h0
            · exact absurd (hn.fr h0) hb
            · exact h0
          obtain ⟨b1, b2⟩ := hn.bd ht
          obtain ⟨y, g, m, hs⟩ := (hG.2.2.2.2.2.1 b b2).sn
          have e3 : d.1 (3 + 10 + c) 1 = nI b := (hK.bnd hg hb).trans b1
          obtain ⟨l1, l2, -⟩ := learn_all k hn.2.1 g (by have := hs.2.2.2.2.1; omega)
          simp only [W_se isW3, Option.bind_some, e3, W_ras isW3 b2, W_scl isW3 b2, if_true, m_learns hc5 b2 (e1.trans b1)]
          refine ⟨_, _, rfl, rfl, ?_, hI2⟩
          show _ = mlearn _ _
          rw [sd_80 _ (by omega), sd_80 _ (by omega), hK.1, (hR.2.1 b b2).2.1, hn.1, hs.2.2.2.1, l1, l2]
theorem st_season {d : Dt} (hI : Inv d) (a1 a2 : Int32) : ∃ (z1 : Int32) (z2 : Int32), f_X8_season L0 d 0 a1 a2 = some z1 ∧ f_X9_season L0 d 78 a1 a2 = some z2 ∧ z1 = z2 ∧ Inv d := by
  obtain ⟨hR, hG, -⟩ := id hI
  have h5 := hG.1.2
  unfold f_X8_season f_X9_season
  simp only [m_isSeason, show f_X9_in a2.toInt64 (0 : Int64) (3 : Int64) = f_X8_within a2 0 3 from in_w0 a2 3 (by omega) 3 rfl]
  by_cases h : f_X8_isSeason a1 = 0
  · simp only [if_pos h]
    exact ⟨_, _, rfl, rfl, rfl, hI⟩
  · simp only [if_neg h]
    obtain ⟨s, hs, rfl⟩ := seas_iff.mp h
    have hix : ∀ k, k < 3 → (if okA L0 79 1 ((3 : Int32) * nI s + nI k) = true then some (d.1 79 ((3 : Int32) * nI s + nI k).toNatClampNeg) else none) = some (d.1 79 (3 * s + k)) := fun k hk => by rw [ix3, Mo_st (by omega), if_pos rfl, nI_clamp (by omega)]
    simp only [X_world, Option.bind_some, W_se isW3, W_ras isW3 hs, W_scl isW3 hs, if_true, W_cls isW3, x_boundTo hs isW3 hR hG, M_cls, m_boundTo hG.1.1 hG.1.2, M_st]
    by_cases hw : f_X8_within a2 0 3 = 0
    · obtain ⟨n0, n1, n2, n3⟩ := wn3 hw
      simp only [if_pos hw, if_neg n0, if_neg n1, if_neg n2, if_neg n3]
      exact ⟨_, _, rfl, rfl, rfl, hI⟩
    · simp only [if_neg hw]
      rcases wi3 hw with rfl | rfl | rfl | rfl
      · rw [if_pos rfl, if_neg (by decide)]
        exact ⟨_, _, rfl, hix 0 (by omega), (hR.2.1 s hs).1, hI⟩
      · rw [if_neg (by decide), if_pos rfl, if_neg (by decide)]
        exact ⟨_, _, rfl, hix 1 (by omega), (hR.2.1 s hs).2.1, hI⟩
      · rw [if_neg (by decide), if_neg (by decide), if_pos rfl, if_neg (by decide)]
        exact ⟨_, _, rfl, hix 2 (by omega), (hR.2.1 s hs).2.2, hI⟩
      · rw [if_neg (by decide), if_neg (by decide), if_neg (by decide), if_pos rfl, if_pos (by decide)]
        exact ⟨_, _, rfl, rfl, rfl, hI⟩
