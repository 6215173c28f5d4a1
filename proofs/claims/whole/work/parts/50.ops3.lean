/-! ===== set, free ===== -/
theorem st_set {d : Dt} (hI : Inv d) (a1 a2 a3 : Int32) : ∃ (z1 : Int32 × Dt) (z2 : Int32 × Dt), f_X8_set L0 d 0 a1 a2 a3 = some z1 ∧ f_X9_set L0 z1.2 78 a1 a2 a3 = some z2 ∧ z1.1 = z2.1 ∧ Inv z2.2 := by
  obtain ⟨hR, hG, -⟩ := id hI
  have h5 := hG.1.2
  have k0 : f_X9_in a3.toInt64 (1 : Int64) (9 : Int64) = f_X8_within a3 1 9 := in_w1 a3 9 (by omega) 9 rfl
  have k1 : f_X9_in a3.toInt64 (0 : Int64) (9 : Int64) = f_X8_within a3 0 9 := in_w0 a3 9 (by omega) 9 rfl
  by_cases h : f_X8_isSeason a1 = 0
  · have hJ : ∀ y, f_X9_set_J50 L0 d 78 a1 a2 a3 y = some (-1, d) := fun y => by unfold f_X9_set_J50; rw [m_isSeason, if_pos h]
    refine ⟨(-1, d), (-1, d), by unfold f_X8_set; rw [if_pos h], ?_, rfl, hI⟩
    unfold f_X9_set f_X9_set_J49
    simp only [hJ]
    split
    · rfl
    · split
      · rfl
      · split
        · split <;> rfl
        · rfl
  · obtain ⟨s, hs, rfl⟩ := seas_iff.mp h
    have hs3 := hR.2.1 s hs
    obtain ⟨y, g, m, hsn⟩ := (hG.2.2.2.2.2.1 s hs).sn
    obtain ⟨s0, s1, s2, s3, s4, s5, s6⟩ := hsn
    -- the reference
    have hm0 : ∀ D y, y = 0 → f_X9_set_J50 L0 D 78 (nI s) a2 a3 y = some (-1, D) := fun D y hy => by unfold f_X9_set_J50; rw [m_isSeason, if_neg h, if_pos hy]
    have hm1 : ∀ D y k, ¬ y = 0 → k < 3 → f_X9_set_J50 L0 D 78 (nI s) (nI k) a3 y = some (D.1 79 (3 * s + k), pI D 79 (3 * s + k) a3) := fun D y k hy hk => by
      unfold f_X9_set_J50
      rw [m_isSeason, if_neg h, if_neg hy, M_cls, if_pos rfl, ix3, m_becomes (by omega), Option.bind_some]
    -- the class
    have hx : f_X8_set L0 d 0 (nI s) a2 a3 = if a2 = 0 then (if f_X8_within a3 1 9 = 0 then f_X8_set_J53 L0 d a2 a3 (3 + 6 + s) (-1) else some (d.1 (3 + 6 + s) 0, pI d (3 + 6 + s) 0 a3)) else f_X8_set_J53 L0 d a2 a3 (3 + 6 + s) (-1) := by
      unfold f_X8_set
      rw [if_neg h, X_world, Option.bind_some, W_se isW3, Option.bind_some, W_ras isW3 hs, Option.bind_some, W_scl isW3 hs, if_pos rfl]
    have hx1 : f_X8_set_J53 L0 d a2 a3 (3 + 6 + s) (-1) = if a2 = 1 then (if f_X8_within a3 0 9 = 0 then f_X8_set_J84 L0 d a2 a3 (3 + 6 + s) (-1) else some (d.1 (3 + 6 + s) 1, pI d (3 + 6 + s) 1 a3)) else f_X8_set_J84 L0 d a2 a3 (3 + 6 + s) (-1) := by
      unfold f_X8_set_J53
      rw [W_scl isW3 hs, if_pos rfl]
    have hx2 : f_X8_set_J84 L0 d a2 a3 (3 + 6 + s) (-1) = if a2 = 2 then (if f_X8_within a3 0 99 = 0 then some (-1, d) else some (d.1 (3 + 6 + s) 2, pI d (3 + 6 + s) 2 a3)) else some (-1, d) := by
      unfold f_X8_set_J84
      rw [W_scl isW3 hs, if_pos rfl]
    -- a change
    have hch : ∀ k, k < 3 → GS (upd (d.1 79) (3 * s + k) a3) s → Inv (pI (pI d (3 + 6 + s) k a3) 79 (3 * s + k) a3) := by
      intro k hk hgs
      have e79 : (pI d (3 + 6 + s) k a3).1 79 = d.1 79 := pI_ne (by omega)
      refine hI.sea hs (d1 := pI d (3 + 6 + s) k a3) (fun a ha => pI_ne ha) (fun a ha => pI_ne ha) (fun j hj => by rw [u79, upd_n (by omega)]) ?_ (by rw [u79, e79]; exact hgs)
      rw [u79, e79, pI_ne (by omega)]
      rcases (show k = 0 ∨ k = 1 ∨ k = 2 by omega) with rfl | rfl | rfl
      · exact ⟨by rw [ps, Nat.add_zero, upd_s], by rw [pk (by decide), upd_n (by omega)]; exact hs3.2.1, by rw [pk (by decide), upd_n (by omega)]; exact hs3.2.2⟩
      · exact ⟨by rw [pk (by decide), upd_n (by omega)]; exact hs3.1, by rw [ps, upd_s], by rw [pk (by decide), upd_n (by omega)]; exact hs3.2.2⟩
      · exact ⟨by rw [pk (by decide), upd_n (by omega)]; exact hs3.1, by rw [pk (by decide), upd_n (by omega)]; exact hs3.2.1, by rw [ps, upd_s]⟩
    have e79 : ∀ k, (pI d (3 + 6 + s) k a3).1 79 = d.1 79 := fun k => pI_ne (by omega)
    by_cases c0 : a2 = 0
    · subst c0
      rw [if_pos rfl] at hx
      by_cases h9 : f_X8_within a3 1 9 = 0
      · rw [if_pos h9, hx1, if_neg (by decide), hx2, if_neg (by decide)] at hx
        exact ⟨_, _, hx, by unfold f_X9_set; rw [if_pos rfl, k0]; exact hm0 _ _ h9, rfl, hI⟩
      · rw [if_neg h9] at hx
        obtain ⟨v, v1, v2, rfl⟩ := (wi_iff (a := 1) (b := 9) (by omega) (by omega)).mp h9
        refine ⟨_, _, hx, by unfold f_X9_set; rw [if_pos rfl, k0]; exact hm1 _ _ 0 h9 (by omega), ?_, hch 0 (by omega) ?_⟩
        · show d.1 (3 + 6 + s) 0 = (pI d (3 + 6 + s) 0 (nI v)).1 79 (3 * s + 0)
          rw [e79, Nat.add_zero]; exact hs3.1
        · exact ⟨⟨v, v1, v2, by rw [Nat.add_zero, upd_s]⟩, ⟨g, s4, by rw [upd_n (by omega)]; exact s3⟩, ⟨m, s6, by rw [upd_n (by omega)]; exact s5⟩⟩
    rw [if_neg c0, hx1] at hx
    by_cases c1 : a2 = 1
    · subst c1
      rw [if_pos rfl] at hx
      by_cases h9 : f_X8_within a3 0 9 = 0
      · rw [if_pos h9, hx2, if_neg (by decide)] at hx
        exact ⟨_, _, hx, by unfold f_X9_set; rw [if_neg c0, if_pos rfl, k1]; exact hm0 _ _ h9, rfl, hI⟩
      · rw [if_neg h9] at hx
        obtain ⟨v, v2, rfl⟩ := (wi0_iff 9 (by omega)).mp h9
        refine ⟨_, _, hx, by unfold f_X9_set; rw [if_neg c0, if_pos rfl, k1]; exact hm1 _ _ 1 h9 (by omega), ?_, hch 1 (by omega) ?_⟩
        · show d.1 (3 + 6 + s) 1 = (pI d (3 + 6 + s) 1 (nI v)).1 79 (3 * s + 1)
          rw [e79]; exact hs3.2.1
        · exact ⟨⟨y, s1, s2, by rw [upd_n (by omega)]; exact s0⟩, ⟨v, v2, upd_s⟩, ⟨m, s6, by rw [upd_n (by omega)]; exact s5⟩⟩
    rw [if_neg c1, hx2] at hx
    by_cases c2 : a2 = 2
    · subst c2
      rw [if_pos rfl] at hx
      by_cases h9 : f_X8_within a3 0 99 = 0
      · rw [if_pos h9] at hx
        exact ⟨_, _, hx, by unfold f_X9_set f_X9_set_J49; rw [if_neg c0, if_neg c1, if_pos rfl, m_isSkill, if_pos h9]; exact hm0 _ _ rfl, rfl, hI⟩
      · rw [if_neg h9] at hx
        obtain ⟨v, v2, rfl⟩ := (wi0_iff 99 (by omega)).mp h9
        refine ⟨_, _, hx, by unfold f_X9_set; rw [if_neg c0, if_neg c1, if_pos rfl, m_isSkill, if_neg h9]; exact hm1 _ _ 2 one_ne (by omega), ?_, hch 2 (by omega) ?_⟩
        · show d.1 (3 + 6 + s) 2 = (pI d (3 + 6 + s) 2 (nI v)).1 79 (3 * s + 2)
          rw [e79]; exact hs3.2.2
        · exact ⟨⟨y, s1, s2, by rw [upd_n (by omega)]; exact s0⟩, ⟨g, s4, by rw [upd_n (by omega)]; exact s3⟩, ⟨v, v2, upd_s⟩⟩
    rw [if_neg c2] at hx
    exact ⟨_, _, hx, by unfold f_X9_set f_X9_set_J49; rw [if_neg c0, if_neg c1, if_neg c2]; exact hm0 _ _ rfl, rfl, hI⟩
theorem m_isBound {d : Dt} {c : Nat} (hc : c < 5) : f_X9_isBound L0 d 78 (nI c) = some (if d.1 79 (12 + 5 * c + 1) = -4 then 0 else 1) := by
  unfold f_X9_isBound
  rw [M_st, Option.bind_some, show ((12 : Int32) + ((5 : Int32) * nI c)) + (1 : Int32) = nI (12 + 5 * c + 1) from ixk c 1, Mo_st (by omega), if_pos rfl, nI_clamp (by omega)]
  split <;> rfl
theorem st_free {d : Dt} (hI : Inv d) (a1 : Int32) : ∃ (z1 : Int32 × Dt) (z2 : Int32 × Dt), f_X8_free L0 d 0 a1 = some z1 ∧ f_X9_free L0 z1.2 78 a1 = some z2 ∧ z1.1 = z2.1 ∧ Inv z2.2 := by
  obtain ⟨hR, hG, -⟩ := id hI
  have h5 := hG.1.2
  by_cases h : f_X8_within a1 0 (d.1 79 37 - 1) = 0
  · refine ⟨(-1, d), (-1, d), ?_, ?_, rfl, hI⟩
    · unfold f_X8_free
      rw [X_world, Option.bind_some, W_cls isW3, if_pos rfl, x_has isW3 hR, Option.bind_some, if_pos h]
    · unfold f_X9_free
      rw [M_cls, if_pos rfl, m_isChild, Option.bind_some, if_pos h]
  · have h' := h
    rw [hG.1.1] at h'
    obtain ⟨c, hc, rfl⟩ := (has_iff (by omega)).mp h'
    have hc5 : c < 5 := by omega
    have hK := hR.2.2.1 c hc
    have hg := hG.2.2.2.2.2.2.1 c hc
    have hx : f_X8_free L0 d 0 (nI c) = if d.1 79 (12 + 5 * c + 1) = -4 then some (-2, d) else some (d.1 (3 + 10 + c) 2, pI d (3 + 10 + c) 2 0) := by
      unfold f_X8_free
      rw [X_world, Option.bind_some, W_cls isW3, if_pos rfl, x_has isW3 hR, Option.bind_some, if_neg h, W_ch isW3, Option.bind_some, W_rac isW3 hc5, Option.bind_some, W_ccl isW3 hc5, if_pos rfl, x_isFree isW3 hR hG hc, Option.bind_some]
      by_cases hb : d.1 79 (12 + 5 * c + 1) = -4
      · rw [if_pos hb, if_neg one_ne, if_pos hb]
      · rw [if_neg hb, if_pos rfl, if_neg hb]
    by_cases hb : d.1 79 (12 + 5 * c + 1) = -4
    · rw [if_pos hb] at hx
      refine ⟨_, (-2, d), hx, ?_, rfl, hI⟩
      unfold f_X9_free
      rw [M_cls, if_pos rfl, m_isChild, Option.bind_some, if_neg h, m_isBound hc5, Option.bind_some, if_pos hb, if_pos rfl]
    · rw [if_neg hb] at hx
      have e79 : (pI d (3 + 10 + c) 2 0).1 79 = d.1 79 := pI_ne (by omega)
      refine ⟨_, (d.1 79 (12 + 5 * c + 2), pI (pI (pI d (3 + 10 + c) 2 0) 79 (12 + 5 * c + 1) (-4)) 79 (12 + 5 * c + 2) 0), hx, ?_, hK.2.1, ?_⟩
      · unfold f_X9_free
        rw [M_cls, if_pos rfl, m_isChild, Option.bind_some, e79, if_neg h, m_isBound hc5, Option.bind_some, e79, if_neg hb, if_neg one_ne, M_st, Option.bind_some, show ((12 : Int32) + ((5 : Int32) * nI c)) + (1 : Int32) = nI (12 + 5 * c + 1) from ixk c 1, Mo_st (by omega), if_pos rfl, nI_clamp (by omega), show ((12 : Int32) + ((5 : Int32) * nI c)) + (2 : Int32) = nI (12 + 5 * c + 2) from ixk c 2, m_becomes (by omega), Option.bind_some, pk (by omega), e79]
      · have r2 : (pI (pI (pI d (3 + 10 + c) 2 0) 79 (12 + 5 * c + 1) (-4)) 79 (12 + 5 * c + 2) 0).1 79 = upd (upd (d.1 79) (12 + 5 * c + 1) (-4)) (12 + 5 * c + 2) 0 := by rw [u79, u79, e79]
        refine hI.kid hc (d1 := pI d (3 + 10 + c) 2 0) (fun a ha => pI_ne ha) (fun a ha => by rw [pI_ne ha, pI_ne ha]) (fun j hj => by rw [r2, upd_n (by omega), upd_n (by omega), e79]) ?_ ?_
        · obtain ⟨q0, q2, q3, q4, q1, qs⟩ := hK
          rw [r2]
          refine ⟨by rw [pI_ne (by omega), pI_ne (by omega), pk (by decide), upd_n (by omega), upd_n (by omega)]; exact q0, by rw [pI_ne (by omega), pI_ne (by omega), ps, upd_s], by rw [pI_ne (by omega), pI_ne (by omega), pk (by decide), upd_n (by omega), upd_n (by omega)]; exact q3, by rw [pI_ne (by omega), pI_ne (by omega), pk (by decide), upd_n (by omega), upd_n (by omega)]; exact q4, fun z => ?_, by rw [pI_ne (by omega), pI_ne (by omega), pk (by decide)]; exact qs⟩
          rw [upd_s] at z
          exact absurd rfl z
        · rw [r2]
          obtain ⟨g1, g2, g3, g4⟩ := hg
          exact ⟨by rw [upd_n (by omega), upd_n (by omega)]; exact g1, ⟨0, by omega, by rw [upd_s]; rfl, Or.inl ⟨rfl, by rw [upd_n (by omega), upd_s]⟩⟩, by rw [upd_n (by omega), upd_n (by omega)]; exact g3, by rw [upd_n (by omega), upd_n (by omega)]; exact g4⟩
