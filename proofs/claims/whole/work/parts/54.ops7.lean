/-! ===== feed, end, forget, see ===== -/
theorem Im.mv {d d' : Dt} {k : Nat} (hk : k < 2) (h : Im d k) (e : ∀ a, 34 ≤ a → a ≤ 69 → d'.1 a = d.1 a) (e79 : ∀ j, 60 ≤ j → d'.1 79 j = d.1 79 j) (e81 : d'.1 81 = d.1 81) : Im d' k := by
  obtain ⟨a1, a2⟩ := h
  have ei : im d' k = im d k := by funext j; exact e79 _ (by omega)
  refine ⟨by rw [e 35 (by omega) (by omega), e81]; exact a1, ?_⟩
  rw [e81, ei]
  rcases a2 with a2 | ⟨a2, a3, a4⟩
  · exact Or.inl a2
  · exact Or.inr ⟨a2, a3.mv (fun a _ _ => e a (by omega) (by omega)) a4.1.2, a4⟩
theorem Tp.mv {d d' : Dt} (h : Tp d) (e1 : d'.1 1 = d.1 1) (e2 : d'.1 2 = d.1 2) (e83 : d'.1 83 = d.1 83) (e78 : d'.1 78 6 = d.1 78 6) : Tp d' := by
  unfold Tp at *
  rw [e1, e2, e83, e78]
  exact h
theorem Sh.mv {d d' : Dt} {k : Nat} (hk : k < 4) (h : Sh d k) (e : ∀ a, 70 ≤ a → a ≤ 77 → d'.1 a = d.1 a) (e86 : d'.1 86 = d.1 86) (e87 : d'.1 87 = d.1 87) (e88 : d'.1 88 = d.1 88) : Sh d' k := by
  unfold Sh at *
  rw [e _ (by omega) (by omega), e (71 + 2 * k) (by omega) (by omega), e86, e87, e88]
  exact h
theorem byte_n : ∀ n, n < 128 → vp_nar .byte (nI n).toInt8.toInt32 = nI n := by decide +kernel
/-- Inv behind a change of the tape -/
theorem Inv.tape {d d' : Dt} (h : Inv d) (e : ∀ a, a ≠ 1 → a ≠ 2 → a ≠ 83 → a ≠ 78 → d'.1 a = d.1 a) (e11 : d'.1 78 11 = d.1 78 11) (e23 : d'.1 78 23 = d.1 78 23) (hT : Tp d') : Inv d' := by
  obtain ⟨h1, h2, h3, h4, h5, h6, h7⟩ := h
  have e79 : d'.1 79 = d.1 79 := e 79 (by omega) (by omega) (by omega) (by omega)
  refine ⟨?_, by rw [e79]; exact h2, fun k hk => (h3 k hk).mv hk (fun a _ _ => e a (by omega) (by omega) (by omega) (by omega)) (fun j _ => by rw [e79]) (e 81 (by omega) (by omega) (by omega) (by omega)), hT, ?_, ?_, fun k hk => (h7 k hk).mv hk (fun a _ _ => e a (by omega) (by omega) (by omega) (by omega)) (e 86 (by omega) (by omega) (by omega) (by omega)) (e 87 (by omega) (by omega) (by omega) (by omega)) (e 88 (by omega) (by omega) (by omega) (by omega))⟩
  · rw [e79]
    exact h1.mv (fun a _ _ => e a (by omega) (by omega) (by omega) (by omega)) h2.1.2
  · rw [e 0 (by omega) (by omega) (by omega) (by omega), e11]; exact h5
  · rw [e 0 (by omega) (by omega) (by omega) (by omega), e23]; exact h6
theorem st_feed {d : Dt} (hI : Inv d) (a1 : Int32) : ∃ (z1 : Int32 × Dt) (z2 : Int32 × Dt), f_X8_feed L0 d 0 a1 = some z1 ∧ f_X9_feed L0 z1.2 78 a1 = some z2 ∧ z1.1 = z2.1 ∧ Inv z2.2 := by
  obtain ⟨n, hn, e1, e2, e3⟩ := hI.2.2.2.1
  have hin : f_X9_in a1.toInt64 (0 : Int64) (127 : Int64) = f_X8_within a1 0 127 := in_w0 a1 127 (by omega) 127 rfl
  by_cases h : f_X8_within a1 0 127 = 0
  · exact ⟨(-1, d), (-1, d), by unfold f_X8_feed; rw [if_pos h], by unfold f_X9_feed; rw [hin, if_pos h], rfl, hI⟩
  · obtain ⟨v, hv, rfl⟩ := (wi0_iff 127 (by omega)).mp h
    by_cases hf : n < 160
    · have q1 : d.1 1 1 < 160 := by rw [e1]; exact nI_lt (b := 160) hf (by omega)
      have q2 : ¬ (160 : Int32) ≤ d.1 1 1 := fun q => by rw [e1] at q; have := (nI_leI (a := 160) (b := n) (by omega) (by omega)).mp q; omega
      have hx : f_X8_feed L0 d 0 (nI v) = some (nI (n + 1), pI (pI d 2 n (nI v)) 1 1 (nI (n + 1))) := by
        unfold f_X8_feed f_X6_append
        rw [if_neg h, X_tape, Option.bind_some, T_cls, if_pos rfl, if_pos q1, if_pos rfl, if_neg q2, T_by, Option.bind_some, e1, T_ok hf, if_pos rfl, Option.bind_some, nI_clamp (by omega), byte_n v (by omega), ps, pI_ne (by omega), e1, nI_1]
      refine ⟨_, (nI (n + 1), pI (pI (pI (pI d 2 n (nI v)) 1 1 (nI (n + 1))) 83 n (nI v)) 78 6 (nI (n + 1))), hx, ?_, rfl, ?_⟩
      · have q3 : (pI (pI d 2 n (nI v)) 1 1 (nI (n + 1))).1 78 6 = nI n := by rw [pI_ne (by omega), pI_ne (by omega)]; exact e2
        have q4 : ¬ nI n = 160 := fun q => by have := nI_inj (b := 160) (by omega) (by omega) q; omega
        unfold f_X9_feed
        rw [hin, if_neg h, M_cls, if_pos rfl, q3, if_neg q4, M_tape, Option.bind_some, Mo_tape hf, if_pos rfl, nI_clamp (by omega), ps, pI_ne (by omega), q3, nI_1]
      · refine hI.tape (fun a h1 h2 h3 h4 => by rw [pI_ne h4, pI_ne h3, pI_ne h1, pI_ne h2]) (by rw [pk (by decide), pI_ne (by omega), pI_ne (by omega), pI_ne (by omega)]) (by rw [pk (by decide), pI_ne (by omega), pI_ne (by omega), pI_ne (by omega)]) ⟨n + 1, by omega, by rw [pI_ne (by omega), pI_ne (by omega), ps], by rw [ps], fun i hi => ?_⟩
        rw [pI_ne (by omega), pI_ne (by omega), pI_ne (by omega), pI_self, pI_ne (by omega), pI_self, pI_ne (by omega), pI_ne (by omega)]
        by_cases e : i = n
        · subst e
          rw [upd_s, upd_s]
          exact ⟨rfl, v, hv, rfl⟩
        · rw [upd_n e, upd_n e]
          exact e3 i (by omega)
    · have hn' : n = 160 := by omega
      subst hn'
      refine ⟨(-3, d), (-3, d), ?_, ?_, rfl, hI⟩
      · unfold f_X8_feed
        rw [if_neg h, X_tape, Option.bind_some, T_cls, if_pos rfl, e1, if_neg (by decide)]
      · unfold f_X9_feed
        rw [hin, if_neg h, M_cls, if_pos rfl, e2, if_pos (by decide)]
theorem in_wx (a b : Int32) : f_X9_in a.toInt64 (0 : Int64) b.toInt64 = f_X8_within a 0 b := by
  rw [show (0 : Int64) = (0 : Int32).toInt64 by decide, in_within]
theorem st_end {d : Dt} (hI : Inv d) (a1 : Int32) : ∃ (z1 : Int32 × Dt) (z2 : Int32 × Dt), f_X8_end L0 d 0 a1 = some z1 ∧ f_X9_end L0 z1.2 78 a1 = some z2 ∧ z1.1 = z2.1 ∧ Inv z2.2 := by
  obtain ⟨n, hn, e1, e2, e3⟩ := hI.2.2.2.1
  by_cases h : f_X8_within a1 0 (nI n) = 0
  · exact ⟨(-1, d), (-1, d), by unfold f_X8_end; rw [X_tape, Option.bind_some, T_cls, if_pos rfl, e1, if_pos h], by unfold f_X9_end; rw [M_cls, if_pos rfl, in_wx, e2, if_pos h], rfl, hI⟩
  · obtain ⟨v, hv, rfl⟩ := (wi0_iff n (by omega)).mp h
    have q3 : (pI d 1 1 (nI v)).1 78 6 = nI n := by rw [pI_ne (by omega)]; exact e2
    refine ⟨(nI n, pI d 1 1 (nI v)), (nI n, pI (pI d 1 1 (nI v)) 78 6 (nI v)), ?_, ?_, rfl, ?_⟩
    · unfold f_X8_end
      rw [X_tape, Option.bind_some, T_cls, if_pos rfl, e1, if_neg h]
    · unfold f_X9_end
      rw [M_cls, if_pos rfl, in_wx, q3, if_neg h]
    · refine hI.tape (fun a h1 h2 h3 h4 => by rw [pI_ne h4, pI_ne h1]) (by rw [pk (by decide), pI_ne (by omega)]) (by rw [pk (by decide), pI_ne (by omega)]) ⟨v, by omega, by rw [pI_ne (by omega), ps], by rw [ps], fun i hi => ?_⟩
      rw [pI_ne (by omega), pI_ne (by omega), pI_ne (by omega), pI_ne (by omega)]
      exact e3 i (by omega)
/-- RW and Good behind a change of the notes -/
theorem Inv.notes {d d' : Dt} (hI : Inv d) {m : Nat} (hm : m ≤ 6) (e : ∀ a, a ≠ 3 → a ≠ 6 → a ≠ 7 → a ≠ 8 → a ≠ 79 → d'.1 a = d.1 a) (e3 : ∀ j, j ≠ 9 → d'.1 3 j = d.1 3 j) (e9 : d'.1 3 9 = nI m) (e41 : d'.1 79 41 = nI m) (e79 : ∀ j, (j < 41 ∨ 60 ≤ j) → d'.1 79 j = d.1 79 j)
    (hn : ∀ i, i < m → (d'.1 6 i = d'.1 79 (42 + 3 * i) ∧ d'.1 7 i = d'.1 79 (42 + 3 * i + 1) ∧ d'.1 8 i = d'.1 79 (42 + 3 * i + 2)) ∧ (∃ x, x ≤ 30 ∧ d'.1 79 (42 + 3 * i) = nI x) ∧ (∃ c, c < nk (d.1 79) ∧ d'.1 79 (42 + 3 * i + 1) = nI c) ∧ (∃ x, x ≤ 99 ∧ d'.1 79 (42 + 3 * i + 2) = nI x)) : Inv d' := by
  obtain ⟨hR, hG, -⟩ := id hI
  have en : nk (d'.1 79) = nk (d.1 79) := by unfold nk; rw [e79 37 (by omega)]
  have es : ns (d'.1 79) = m := by unfold ns; rw [e41, nI_clamp (by omega)]
  have h5 := hG.1.2
  obtain ⟨⟨g1, g1'⟩, g2, g3, g4, ⟨g5, g5'⟩, g6, g7, g8⟩ := hG
  obtain ⟨⟨r1, r2, r3, r4, r5⟩, r6, r7, r8⟩ := hR
  refine hI.upd (fun a ha hn h80 => e a (by omega) (by omega) (by omega) (by omega) hn) (fun j hj => e79 j (by omega)) ⟨⟨by rw [e3 2 (by omega), e79 37 (by omega)]; exact r1, by rw [e3 3 (by omega), e79 38 (by omega)]; exact r2, by rw [e3 4 (by omega), e79 39 (by omega)]; exact r3, by rw [e3 5 (by omega), e79 40 (by omega)]; exact r4, by rw [e9, e41]⟩, fun s hs => ?_, fun c hc => ?_, fun i hi => ?_⟩ ⟨⟨by rw [en, e79 37 (by omega)]; exact g1, by rw [en]; exact g1'⟩, by rw [e79 38 (by omega)]; exact g2, by rw [e79 39 (by omega)]; exact g3, trivial, ⟨by rw [es, e41], by omega⟩, fun s hs => ?_, fun c hc => ?_, fun i hi => ?_⟩
  · rw [e _ (by omega) (by omega) (by omega) (by omega) (by omega), e79 _ (by omega), e79 _ (by omega), e79 _ (by omega)]
    exact r6 s hs
  · rw [en] at hc
    have := r7 c hc
    unfold KR at *
    rw [e _ (by omega) (by omega) (by omega) (by omega) (by omega), e79 _ (by omega), e79 _ (by omega), e79 _ (by omega), e79 _ (by omega), e79 _ (by omega)]
    exact this
  · rw [es] at hi
    exact (hn i hi).1
  · have := g6 s hs
    unfold GS at *
    rw [e79 _ (by omega), e79 _ (by omega), e79 _ (by omega)]
    exact this
  · rw [en] at hc
    have := g7 c hc
    unfold GK at *
    rw [e79 _ (by omega), e79 _ (by omega), e79 _ (by omega), e79 _ (by omega), e79 _ (by omega)]
    exact this
  · rw [es] at hi
    rw [en]
    exact (hn i hi).2
theorem st_forget {d : Dt} (hI : Inv d) (a1 : Int32) : ∃ (z1 : Int32 × Dt) (z2 : Int32 × Dt), f_X8_forget L0 d 0 a1 = some z1 ∧ f_X9_forget L0 z1.2 78 a1 = some z2 ∧ z1.1 = z2.1 ∧ Inv z2.2 := by
  obtain ⟨hR, hG, -⟩ := id hI
  obtain ⟨g5, g5'⟩ := hG.2.2.2.2.1
  have e9 : d.1 3 9 = nI (ns (d.1 79)) := hR.1.2.2.2.2.trans g5
  by_cases h : f_X8_within a1 0 (nI (ns (d.1 79))) = 0
  · exact ⟨(-1, d), (-1, d), by unfold f_X8_forget; rw [X_world, Option.bind_some, W_cls isW3, if_pos rfl, e9, if_pos h], by unfold f_X9_forget; rw [M_st, Option.bind_some, mo41, if_pos rfl, in_wx, t41, g5, if_pos h], rfl, hI⟩
  · obtain ⟨v, hv, rfl⟩ := (wi0_iff _ (by omega)).mp h
    have q3 : (pI d 3 9 (nI v)).1 79 = d.1 79 := pI_ne (by omega)
    refine ⟨(nI (ns (d.1 79)), pI d 3 9 (nI v)), (nI (ns (d.1 79)), pI (pI d 3 9 (nI v)) 79 41 (nI v)), ?_, ?_, rfl, ?_⟩
    · unfold f_X8_forget
      rw [X_world, Option.bind_some, W_cls isW3, if_pos rfl, e9, if_neg h]
    · unfold f_X9_forget
      rw [M_st, Option.bind_some, mo41, if_pos rfl, in_wx, t41, q3, g5, if_neg h, M_cls, if_pos rfl, show f_X9_becomes L0 (pI d 3 9 (nI v)) 78 (41 : Int32) (nI v) = _ from m_becomes (j := 41) (by omega) (nI v), Option.bind_some, q3, g5]
    · refine hI.notes (m := v) (by omega) (fun a h1 h2 h3 h4 h5 => by rw [pI_ne h5, pI_ne h1]) (fun j hj => by rw [pI_ne (by omega), pk hj]) (by rw [pI_ne (by omega), ps]) ps (fun j hj => by rw [pk (by omega), q3]) (fun i hi => ?_)
      have p3 : ∀ a, a ≠ 79 → a ≠ 3 → (pI (pI d 3 9 (nI v)) 79 41 (nI v)).1 a = d.1 a := fun a ha hb => by rw [pI_ne ha, pI_ne hb]
      show ((pI (pI d 3 9 (nI v)) 79 41 (nI v)).1 6 i = _ ∧ (pI (pI d 3 9 (nI v)) 79 41 (nI v)).1 7 i = _ ∧ (pI (pI d 3 9 (nI v)) 79 41 (nI v)).1 8 i = _) ∧ _
      rw [p3 6 (by omega) (by omega), p3 7 (by omega) (by omega), p3 8 (by omega) (by omega), pk (by omega), pk (by omega), pk (by omega), q3]
      exact ⟨hR.2.2.2 i (by omega), hG.2.2.2.2.2.2.2 i (by omega)⟩
theorem st_see {d : Dt} (hI : Inv d) (a1 a2 a3 : Int32) : ∃ (z1 : Int32 × Dt) (z2 : Int32 × Dt), f_X8_see L0 d 0 a1 a2 a3 = some z1 ∧ f_X9_see L0 z1.2 78 a1 a2 a3 = some z2 ∧ z1.1 = z2.1 ∧ Inv z2.2 := by
  obtain ⟨hR, hG, -⟩ := id hI
  obtain ⟨g5, g5'⟩ := hG.2.2.2.2.1
  have h5 := hG.1.2
  have e9 : d.1 3 9 = nI (ns (d.1 79)) := hR.1.2.2.2.2.trans g5
  have hin : f_X9_in a1.toInt64 (0 : Int64) (30 : Int64) = f_X8_within a1 0 30 := in_w0 a1 30 (by omega) 30 rfl
  by_cases h : f_X8_within a1 0 30 = 0
  · exact ⟨(-1, d), (-1, d), by unfold f_X8_see; rw [if_pos h], by unfold f_X9_see; rw [hin, if_pos h], rfl, hI⟩
  by_cases h2 : f_X8_within a2 0 (d.1 79 37 - 1) = 0
  · exact ⟨(-1, d), (-1, d), by unfold f_X8_see; rw [if_neg h, X_world, Option.bind_some, W_cls isW3, if_pos rfl, x_has isW3 hR, Option.bind_some, if_pos h2], by unfold f_X9_see; rw [hin, if_neg h, M_cls, if_pos rfl, m_isChild, Option.bind_some, if_pos h2], rfl, hI⟩
  by_cases h3 : f_X8_within a3 0 99 = 0
  · exact ⟨(-1, d), (-1, d), by unfold f_X8_see; rw [if_neg h, X_world, Option.bind_some, W_cls isW3, if_pos rfl, x_has isW3 hR, Option.bind_some, if_neg h2, if_pos h3], by unfold f_X9_see; rw [hin, if_neg h, M_cls, if_pos rfl, m_isChild, Option.bind_some, if_neg h2, m_isSkill, if_pos h3], rfl, hI⟩
  have hx0 : f_X8_see L0 d 0 a1 a2 a3 = if nI (ns (d.1 79)) < 6 then (f_X7_note L0 d 3 a1 a2 a3).bind fun z8 => some (z8.1 3 9, z8) else some (-3, d) := by
    unfold f_X8_see
    rw [if_neg h, X_world, Option.bind_some, W_cls isW3, if_pos rfl, x_has isW3 hR, Option.bind_some, if_neg h2, if_neg h3, e9]
  by_cases hf : ns (d.1 79) < 6
  · obtain ⟨v1, hv1, rfl⟩ := (wi0_iff 30 (by omega)).mp h
    have h2' := h2
    rw [hG.1.1] at h2'
    obtain ⟨c, hc, rfl⟩ := (has_iff (by omega)).mp h2'
    obtain ⟨v3, hv3, rfl⟩ := (wi0_iff 99 (by omega)).mp h3
    generalize hnn : ns (d.1 79) = n at *
    have q2 : ¬ (6 : Int32) ≤ nI n := fun q => by have := (nI_leI (a := 6) (b := n) (by omega) (by omega)).mp q; omega
    rw [if_pos (show nI n < 6 from nI_lt (b := 6) hf (by omega))] at hx0
    have hno : f_X7_note L0 d 3 (nI v1) (nI c) (nI v3) = some (pI (pI (pI (pI d 6 n (nI v1)) 7 n (nI c)) 8 n (nI v3)) 3 9 (nI (n + 1))) := by
      unfold f_X7_note
      rw [W_cls isW3, if_pos rfl, e9, if_neg q2, W_sb isW3, Option.bind_some, W_ok3 isW3 hf, if_pos rfl, W_sc isW3, Option.bind_some, pI_ne (show 3 ≠ 3 + 3 by omega), e9, nI_clamp (by omega), W_ok4 isW3 hf, if_pos rfl, W_sk isW3, Option.bind_some, pI_ne (show 3 ≠ 3 + 4 by omega), pI_ne (show 3 ≠ 3 + 3 by omega), e9, nI_clamp (by omega), W_ok5 isW3 hf, if_pos rfl, pI_ne (show 3 ≠ 3 + 5 by omega), pI_ne (show 3 ≠ 3 + 4 by omega), pI_ne (show 3 ≠ 3 + 3 by omega), e9, nI_1]
    rw [hno, Option.bind_some, ps] at hx0
    generalize hd1 : pI (pI (pI (pI d 6 n (nI v1)) 7 n (nI c)) 8 n (nI v3)) 3 9 (nI (n + 1)) = d1 at hx0
    have q3 : d1.1 79 = d.1 79 := by rw [← hd1, pI_ne (by omega), pI_ne (by omega), pI_ne (by omega), pI_ne (by omega)]
    have q4 : ¬ nI n = 6 := fun q => by have := nI_inj (b := 6) (by omega) (by omega) q; omega
    have i0 : (42 : Int32) + (3 : Int32) * nI n = nI (42 + 3 * n) := by
      rw [show (3 : Int32) = nI 3 from rfl, nI_mul, show (42 : Int32) = nI 42 from rfl, nI_add]
    refine ⟨_, (nI (n + 1), pI (pI (pI (pI d1 79 (42 + 3 * n) (nI v1)) 79 (42 + 3 * n + 1) (nI c)) 79 (42 + 3 * n + 2) (nI v3)) 79 41 (nI (n + 1))), hx0, ?_, rfl, ?_⟩
    · show f_X9_see L0 d1 78 (nI v1) (nI c) (nI v3) = _
      unfold f_X9_see
      rw [hin, if_neg h, M_cls, if_pos rfl, m_isChild, Option.bind_some, q3, if_neg h2, m_isSkill, if_neg h3, M_st, Option.bind_some, mo41, if_pos rfl, t41, q3, g5, if_neg q4, i0, Mo_st (by omega), if_pos rfl, nI_1, Mo_st (by omega), if_pos rfl, show nI (42 + 3 * n) + (2 : Int32) = nI (42 + 3 * n + 2) from nI_add _ 2, Mo_st (by omega), if_pos rfl, nI_clamp (by omega), nI_clamp (by omega), nI_clamp (by omega), ps, pk (by omega), pk (by omega), pk (by omega), q3, g5, nI_1]
    · have p3 : ∀ a, a ≠ 79 → (pI (pI (pI (pI d1 79 (42 + 3 * n) (nI v1)) 79 (42 + 3 * n + 1) (nI c)) 79 (42 + 3 * n + 2) (nI v3)) 79 41 (nI (n + 1))).1 a = d1.1 a := fun a ha => by rw [pI_ne ha, pI_ne ha, pI_ne ha, pI_ne ha]
      refine hI.notes (m := n + 1) (by omega) (fun a h1 h2 h3 h4 h5 => by rw [p3 a h5, ← hd1, pI_ne h1, pI_ne h4, pI_ne h3, pI_ne h2]) (fun j hj => by rw [p3 3 (by omega), ← hd1, pk hj, pI_ne (by omega), pI_ne (by omega), pI_ne (by omega)]) (by rw [p3 3 (by omega), ← hd1, ps]) ps (fun j hj => by rw [pk (by omega), pk (by omega), pk (by omega), pk (by omega), q3]) (fun i hi => ?_)
      have w0 : ∀ j, j ≠ 41 → j ≠ 42 + 3 * n → j ≠ 42 + 3 * n + 1 → j ≠ 42 + 3 * n + 2 → (pI (pI (pI (pI d1 79 (42 + 3 * n) (nI v1)) 79 (42 + 3 * n + 1) (nI c)) 79 (42 + 3 * n + 2) (nI v3)) 79 41 (nI (n + 1))).1 79 j = d.1 79 j := fun j z1 z2 z3 z4 => by rw [pk z1, pk z4, pk z3, pk z2, q3]
      have u0 : (pI (pI (pI (pI d1 79 (42 + 3 * n) (nI v1)) 79 (42 + 3 * n + 1) (nI c)) 79 (42 + 3 * n + 2) (nI v3)) 79 41 (nI (n + 1))).1 79 (42 + 3 * n) = nI v1 := by rw [pk (by omega), pk (by omega), pk (by omega), ps]
      have u1 : (pI (pI (pI (pI d1 79 (42 + 3 * n) (nI v1)) 79 (42 + 3 * n + 1) (nI c)) 79 (42 + 3 * n + 2) (nI v3)) 79 41 (nI (n + 1))).1 79 (42 + 3 * n + 1) = nI c := by rw [pk (by omega), pk (by omega), ps]
      have u2 : (pI (pI (pI (pI d1 79 (42 + 3 * n) (nI v1)) 79 (42 + 3 * n + 1) (nI c)) 79 (42 + 3 * n + 2) (nI v3)) 79 41 (nI (n + 1))).1 79 (42 + 3 * n + 2) = nI v3 := by rw [pk (by omega), ps]
      have y6 : d1.1 6 = upd (d.1 6) n (nI v1) := by rw [← hd1, pI_ne (by omega), pI_ne (by omega), pI_ne (by omega), pI_self]
      have y7 : d1.1 7 = upd (d.1 7) n (nI c) := by rw [← hd1, pI_ne (by omega), pI_ne (by omega), pI_self, pI_ne (by omega)]
      have y8 : d1.1 8 = upd (d.1 8) n (nI v3) := by rw [← hd1, pI_ne (by omega), pI_self, pI_ne (by omega), pI_ne (by omega)]
      generalize (pI (pI (pI (pI d1 79 (42 + 3 * n) (nI v1)) 79 (42 + 3 * n + 1) (nI c)) 79 (42 + 3 * n + 2) (nI v3)) 79 41 (nI (n + 1))) = D at *
      rw [p3 6 (by omega), p3 7 (by omega), p3 8 (by omega), y6, y7, y8]
      by_cases e : i = n
      · subst e
        rw [u0, u1, u2, upd_s, upd_s, upd_s]
        exact ⟨⟨rfl, rfl, rfl⟩, ⟨v1, hv1, rfl⟩, ⟨c, by omega, rfl⟩, ⟨v3, hv3, rfl⟩⟩
      · rw [w0 _ (by omega) (by omega) (by omega) (by omega), w0 _ (by omega) (by omega) (by omega) (by omega), w0 _ (by omega) (by omega) (by omega) (by omega), upd_n e, upd_n e, upd_n e]
        exact ⟨hR.2.2.2 i (by omega), hG.2.2.2.2.2.2.2 i (by omega)⟩
  · have hn' : ns (d.1 79) = 6 := by omega
    rw [hn', if_neg (by decide)] at hx0
    refine ⟨(-3, d), (-3, d), hx0, ?_, rfl, hI⟩
    unfold f_X9_see
    rw [hin, if_neg h, M_cls, if_pos rfl, m_isChild, Option.bind_some, if_neg h2, m_isSkill, if_neg h3, M_st, Option.bind_some, mo41, if_pos rfl, t41, g5, hn', if_pos (show nI 6 = 6 from rfl)]
