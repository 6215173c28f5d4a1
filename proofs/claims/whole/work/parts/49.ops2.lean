/-! ===== calls that change the world ===== -/
theorem Inv.upd {d d2 : Dt} (h : Inv d) (h1 : ∀ a, (a < 3 ∨ 34 ≤ a) → a ≠ 79 → a ≠ 80 → d2.1 a = d.1 a) (h2 : ∀ j, 60 ≤ j → d2.1 79 j = d.1 79 j) (hR : RW d2 3 (d2.1 79)) (hG : Good (d2.1 79)) : Inv d2 := by
  obtain ⟨-, -, h3, h4, h5, h6, h7⟩ := h
  refine ⟨hR, hG, fun k hk => ?_, ?_, ?_, ?_, fun k hk => ?_⟩
  · obtain ⟨a1, a2⟩ := h3 k hk
    have ei : im d2 k = im d k := by funext j; exact h2 _ (by omega)
    refine ⟨by rw [h1 35 (by omega) (by omega) (by omega), h1 81 (by omega) (by omega) (by omega)]; exact a1, ?_⟩
    rw [h1 81 (by omega) (by omega) (by omega), ei]
    rcases a2 with a2 | ⟨a2, a3, a4⟩
    · exact Or.inl a2
    · exact Or.inr ⟨a2, a3.mv (fun a _ _ => h1 a (by omega) (by omega) (by omega)) a4.1.2, a4⟩
  · unfold Tp at *
    rw [h1 1 (by omega) (by omega) (by omega), h1 78 (by omega) (by omega) (by omega), h1 2 (by omega) (by omega) (by omega), h1 83 (by omega) (by omega) (by omega)]
    exact h4
  · rw [h1 0 (by omega) (by omega) (by omega), h1 78 (by omega) (by omega) (by omega)]; exact h5
  · rw [h1 0 (by omega) (by omega) (by omega), h1 78 (by omega) (by omega) (by omega)]; exact h6
  · have := h7 k hk
    unfold Sh at *
    rw [h1 (70 + 2 * k) (by omega) (by omega) (by omega), h1 (71 + 2 * k) (by omega) (by omega) (by omega), h1 86 (by omega) (by omega) (by omega), h1 87 (by omega) (by omega) (by omega), h1 88 (by omega) (by omega) (by omega)]
    exact this
theorem RW.kid {d d' : Dt} {w : Nat} {r r' : Rw} {c : Nat} (hR : RW d w r) (hn : nk r ≤ 5) (hc : c < nk r) (h1 : ∀ a, a ≠ w + 10 + c → d'.1 a = d.1 a) (h2 : ∀ j, ¬ (12 + 5 * c ≤ j ∧ j < 12 + 5 * c + 5) → r' j = r j) (hk : KR d' w r' c) : RW d' w r' := by
  have en : nk r' = nk r := by unfold nk; rw [h2 37 (by omega)]
  have es : ns r' = ns r := by unfold ns; rw [h2 41 (by omega)]
  obtain ⟨g1, g2, g3, g4⟩ := hR
  refine ⟨by rw [h1 w (by omega), h2 37 (by omega), h2 38 (by omega), h2 39 (by omega), h2 40 (by omega), h2 41 (by omega)]; exact g1, fun s hs => by rw [h1 _ (by omega), h2 _ (by omega), h2 _ (by omega), h2 _ (by omega)]; exact g2 s hs, fun c' hc' => ?_, fun i hi => ?_⟩
  · by_cases e : c' = c
    · subst e; exact hk
    · rw [en] at hc'
      have := g3 c' hc'
      unfold KR at *
      rw [h1 _ (by omega), h2 _ (by omega), h2 _ (by omega), h2 _ (by omega), h2 _ (by omega), h2 _ (by omega)]
      exact this
  · rw [es] at hi
    rw [h1 _ (by omega), h1 _ (by omega), h1 _ (by omega), h2 _ (by omega), h2 _ (by omega), h2 _ (by omega)]
    exact g4 i hi
theorem Good.kid {r r' : Rw} {c : Nat} (hG : Good r) (hc : c < nk r) (h2 : ∀ j, ¬ (12 + 5 * c ≤ j ∧ j < 12 + 5 * c + 5) → r' j = r j) (hk : GK r' c) : Good r' := by
  have h5 := hG.1.2
  have en : nk r' = nk r := by unfold nk; rw [h2 37 (by omega)]
  have es : ns r' = ns r := by unfold ns; rw [h2 41 (by omega)]
  obtain ⟨⟨g1, g1'⟩, g2, g3, g4, ⟨g5, g5'⟩, g6, g7, g8⟩ := hG
  refine ⟨⟨by rw [en, h2 37 (by omega)]; exact g1, by rw [en]; exact g1'⟩, by rw [h2 38 (by omega)]; exact g2, by rw [h2 39 (by omega)]; exact g3, trivial, ⟨by rw [es, h2 41 (by omega)]; exact g5, by rw [es]; exact g5'⟩, fun s hs => ?_, fun c' hc' => ?_, fun i hi => ?_⟩
  · have := g6 s hs
    unfold GS at *
    rw [h2 _ (by omega), h2 _ (by omega), h2 _ (by omega)]
    exact this
  · by_cases e : c' = c
    · subst e; exact hk
    · rw [en] at hc'
      have := g7 c' hc'
      unfold GK at *
      rw [h2 _ (by omega), h2 _ (by omega), h2 _ (by omega), h2 _ (by omega), h2 _ (by omega)]
      exact this
  · rw [es] at hi
    rw [en, h2 _ (by omega), h2 _ (by omega), h2 _ (by omega)]
    exact g8 i hi
theorem RW.sea {d d' : Dt} {w : Nat} {r r' : Rw} {s : Nat} (hR : RW d w r) (hn : nk r ≤ 5) (hs : s < 4) (h1 : ∀ a, a ≠ w + 6 + s → d'.1 a = d.1 a) (h2 : ∀ j, ¬ (3 * s ≤ j ∧ j < 3 * s + 3) → r' j = r j) (hk : d'.1 (w + 6 + s) 0 = r' (3 * s) ∧ d'.1 (w + 6 + s) 1 = r' (3 * s + 1) ∧ d'.1 (w + 6 + s) 2 = r' (3 * s + 2)) : RW d' w r' := by
  have en : nk r' = nk r := by unfold nk; rw [h2 37 (by omega)]
  have es : ns r' = ns r := by unfold ns; rw [h2 41 (by omega)]
  obtain ⟨g1, g2, g3, g4⟩ := hR
  refine ⟨by rw [h1 w (by omega), h2 37 (by omega), h2 38 (by omega), h2 39 (by omega), h2 40 (by omega), h2 41 (by omega)]; exact g1, fun t ht => ?_, fun c' hc' => ?_, fun i hi => ?_⟩
  · by_cases e : t = s
    · subst e; exact hk
    · rw [h1 _ (by omega), h2 _ (by omega), h2 _ (by omega), h2 _ (by omega)]; exact g2 t ht
  · rw [en] at hc'
    have := g3 c' hc'
    unfold KR at *
    rw [h1 _ (by omega), h2 _ (by omega), h2 _ (by omega), h2 _ (by omega), h2 _ (by omega), h2 _ (by omega)]
    exact this
  · rw [es] at hi
    rw [h1 _ (by omega), h1 _ (by omega), h1 _ (by omega), h2 _ (by omega), h2 _ (by omega), h2 _ (by omega)]
    exact g4 i hi
theorem Good.sea {r r' : Rw} {s : Nat} (hG : Good r) (hs : s < 4) (h2 : ∀ j, ¬ (3 * s ≤ j ∧ j < 3 * s + 3) → r' j = r j) (hk : GS r' s) : Good r' := by
  have h5 := hG.1.2
  have en : nk r' = nk r := by unfold nk; rw [h2 37 (by omega)]
  have es : ns r' = ns r := by unfold ns; rw [h2 41 (by omega)]
  obtain ⟨⟨g1, g1'⟩, g2, g3, g4, ⟨g5, g5'⟩, g6, g7, g8⟩ := hG
  refine ⟨⟨by rw [en, h2 37 (by omega)]; exact g1, by rw [en]; exact g1'⟩, by rw [h2 38 (by omega)]; exact g2, by rw [h2 39 (by omega)]; exact g3, trivial, ⟨by rw [es, h2 41 (by omega)]; exact g5, by rw [es]; exact g5'⟩, fun t ht => ?_, fun c' hc' => ?_, fun i hi => ?_⟩
  · by_cases e : t = s
    · subst e; exact hk
    · have := g6 t ht
      unfold GS at *
      rw [h2 _ (by omega), h2 _ (by omega), h2 _ (by omega)]
      exact this
  · rw [en] at hc'
    have := g7 c' hc'
    unfold GK at *
    rw [h2 _ (by omega), h2 _ (by omega), h2 _ (by omega), h2 _ (by omega), h2 _ (by omega)]
    exact this
  · rw [es] at hi
    rw [en, h2 _ (by omega), h2 _ (by omega), h2 _ (by omega)]
    exact g8 i hi
theorem u79 {d : Dt} {k : Nat} {v : Int32} : (pI d 79 k v).1 79 = upd (d.1 79) k v := pI_self
theorem m_becomes {d : Dt} {j : Nat} (hj : j < 180) (v : Int32) : f_X9_becomes L0 d 78 (nI j) v = some (d.1 79 j, pI d 79 j v) := by
  unfold f_X9_becomes
  rw [M_st, Option.bind_some, Mo_st hj, if_pos rfl, nI_clamp (by omega)]
/-- Inv behind a change of one child -/
theorem Inv.kid {d : Dt} (hI : Inv d) {c : Nat} (hc : c < nk (d.1 79)) {d1 d2 : Dt} (h1 : ∀ a, a ≠ 3 + 10 + c → d1.1 a = d.1 a) (h2 : ∀ a, a ≠ 79 → d2.1 a = d1.1 a) (h3 : ∀ j, ¬ (12 + 5 * c ≤ j ∧ j < 12 + 5 * c + 5) → d2.1 79 j = d1.1 79 j) (hk : KR d2 3 (d2.1 79) c) (hg : GK (d2.1 79) c) : Inv d2 := by
  have h5 := hI.2.1.1.2
  have e79 : d1.1 79 = d.1 79 := h1 79 (by omega)
  have h3' : ∀ j, ¬ (12 + 5 * c ≤ j ∧ j < 12 + 5 * c + 5) → d2.1 79 j = d.1 79 j := fun j hj => by rw [h3 j hj, e79]
  refine hI.upd (fun a ha hn _ => by rw [h2 a hn, h1 a (by omega)]) (fun j hj => h3' j (by omega)) ?_ (hI.2.1.kid hc h3' hg)
  have hR1 : RW d1 3 (d2.1 79) ∨ True := Or.inr trivial
  exact RW.kid (d := sR d 79 (d2.1 79)) (hI.1.mv (fun a h7 h8 => sR_ne (by omega)) h5) h5 hc (fun a ha => by
    by_cases e : a = 79
    · subst e; rw [sR_self]
    · rw [sR_ne e, h2 a e, h1 a ha]) h3' hk
theorem Inv.sea {d : Dt} (hI : Inv d) {s : Nat} (hs : s < 4) {d1 d2 : Dt} (h1 : ∀ a, a ≠ 3 + 6 + s → d1.1 a = d.1 a) (h2 : ∀ a, a ≠ 79 → d2.1 a = d1.1 a) (h3 : ∀ j, ¬ (3 * s ≤ j ∧ j < 3 * s + 3) → d2.1 79 j = d1.1 79 j) (hk : d2.1 (3 + 6 + s) 0 = d2.1 79 (3 * s) ∧ d2.1 (3 + 6 + s) 1 = d2.1 79 (3 * s + 1) ∧ d2.1 (3 + 6 + s) 2 = d2.1 79 (3 * s + 2)) (hg : GS (d2.1 79) s) : Inv d2 := by
  have h5 := hI.2.1.1.2
  have e79 : d1.1 79 = d.1 79 := h1 79 (by omega)
  have h3' : ∀ j, ¬ (3 * s ≤ j ∧ j < 3 * s + 3) → d2.1 79 j = d.1 79 j := fun j hj => by rw [h3 j hj, e79]
  refine hI.upd (fun a ha hn _ => by rw [h2 a hn, h1 a (by omega)]) (fun j hj => h3' j (by omega)) ?_ (hI.2.1.sea hs h3' hg)
  exact RW.sea (d := sR d 79 (d2.1 79)) (hI.1.mv (fun a h7 h8 => sR_ne (by omega)) h5) h5 hs (fun a ha => by
    by_cases e : a = 79
    · subst e; rw [sR_self]
    · rw [sR_ne e, h2 a e, h1 a ha]) h3' hk
theorem k_iff {v : Int32} : ¬ f_X8_isKind v = 0 ↔ ∃ s, s < 4 ∧ v = nI s := seas_iff
theorem st_alter {d : Dt} (hI : Inv d) (a1 a2 a3 : Int32) : ∃ (z1 : Int32 × Dt) (z2 : Int32 × Dt), f_X8_alter L0 d 0 a1 a2 a3 = some z1 ∧ f_X9_alter L0 z1.2 78 a1 a2 a3 = some z2 ∧ z1.1 = z2.1 ∧ Inv z2.2 := by
  obtain ⟨hR, hG, -⟩ := id hI
  have h5 := hG.1.2
  have hk3 : f_X9_in a3.toInt64 (0 : Int64) (3 : Int64) = f_X8_isKind a3 := in_w0 a3 3 (by omega) 3 rfl
  -- the reference, where nothing changes
  have mno : (f_X8_within a1 0 (d.1 79 37 - 1) = 0 ∨ ¬ ((a2 = 0 ∧ ¬ f_X8_isKind a3 = 0) ∨ (a2 = 1 ∧ ¬ f_X8_within a3 0 99 = 0))) → f_X9_alter L0 d 78 a1 a2 a3 = some (-1, d) := by
    intro hno
    have hJ : ∀ y, (f_X8_within a1 0 (d.1 79 37 - 1) = 0 ∨ y = 0) → f_X9_alter_J33 L0 d 78 a1 a2 a3 y = some (-1, d) := by
      intro y hy
      unfold f_X9_alter_J33
      rw [M_cls, if_pos rfl, m_isChild, Option.bind_some]
      by_cases h : f_X8_within a1 0 (d.1 79 37 - 1) = 0
      · rw [if_pos h]
      · rw [if_neg h, if_pos (hy.resolve_left h)]
    unfold f_X9_alter f_X9_alter_J32
    rw [hk3, m_isSkill]
    by_cases c0 : a2 = 0
    · rw [if_pos c0]
      apply hJ
      rcases hno with h | h
      · exact Or.inl h
      · right
        by_cases h9 : f_X8_isKind a3 = 0
        · exact h9
        · exact absurd (Or.inl ⟨c0, h9⟩) h
    · rw [if_neg c0]
      by_cases c1 : a2 = 1
      · rw [if_pos c1]
        by_cases h9 : f_X8_within a3 0 99 = 0
        · rw [if_pos h9]; exact hJ 0 (Or.inr rfl)
        · rw [if_neg h9]
          rcases hno with h | h
          · exact hJ 1 (Or.inl h)
          · exact absurd (Or.inr ⟨c1, h9⟩) h
      · rw [if_neg c1]; exact hJ 0 (Or.inr rfl)
  by_cases h : f_X8_within a1 0 (d.1 79 37 - 1) = 0
  · refine ⟨(-1, d), (-1, d), ?_, mno (Or.inl h), rfl, hI⟩
    unfold f_X8_alter
    rw [X_world, Option.bind_some, W_cls isW3, if_pos rfl, x_has isW3 hR, Option.bind_some, if_pos h]
  · have h' := h
    rw [hG.1.1] at h'
    obtain ⟨c, hc, rfl⟩ := (has_iff (by omega)).mp h'
    have hc5 : c < 5 := by omega
    have hK := hR.2.2.1 c hc
    obtain ⟨k, b, t, x, a, hn⟩ := (hG.2.2.2.2.2.2.1 c hc).kn
    have hx0 : f_X8_alter L0 d 0 (nI c) a2 a3 = if a2 = 0 then (if f_X8_isKind a3 = 0 then f_X8_alter_J54 L0 d a2 a3 (3 + 10 + c) (-1) else some (d.1 (3 + 10 + c) 0, pI d (3 + 10 + c) 0 a3)) else f_X8_alter_J54 L0 d a2 a3 (3 + 10 + c) (-1) := by
      unfold f_X8_alter
      rw [X_world, Option.bind_some, W_cls isW3, if_pos rfl, x_has isW3 hR, Option.bind_some, if_neg h, W_ch isW3, Option.bind_some, W_rac isW3 hc5, Option.bind_some, W_ccl isW3 hc5, if_pos rfl]
    have hJx : f_X8_alter_J54 L0 d a2 a3 (3 + 10 + c) (-1) = if a2 = 1 then (if f_X8_within a3 0 99 = 0 then some (-1, d) else some (d.1 (3 + 10 + c) 3, pI d (3 + 10 + c) 3 a3)) else some (-1, d) := by
      unfold f_X8_alter_J54
      rw [W_ccl isW3 hc5, if_pos rfl]
    rw [hJx] at hx0
    have mch : ∀ D : Dt, D.1 79 = d.1 79 → f_X9_isChild L0 D 78 (nI c) = some (f_X8_within (nI c) 0 (d.1 79 37 - 1)) := fun D hD => by rw [m_isChild, hD]
    by_cases c0 : a2 = 0
    · subst c0
      rw [if_pos rfl] at hx0
      by_cases h9 : f_X8_isKind a3 = 0
      · rw [if_pos h9, if_neg (by decide)] at hx0
        exact ⟨_, _, hx0, mno (Or.inr (fun q => q.elim (fun z => z.2 h9) (fun z => absurd z.1 (by decide)))), rfl, hI⟩
      · rw [if_neg h9] at hx0
        obtain ⟨k', hk', rfl⟩ := k_iff.mp h9
        have e79 : (pI d (3 + 10 + c) 0 (nI k')).1 79 = d.1 79 := pI_ne (by omega)
        refine ⟨_, (d.1 79 (12 + 5 * c), pI (pI d (3 + 10 + c) 0 (nI k')) 79 (12 + 5 * c) (nI k')), hx0, ?_, hK.1, ?_⟩
        · unfold f_X9_alter f_X9_alter_J33
          rw [if_pos rfl, M_cls, if_pos rfl, mch _ e79, Option.bind_some, if_neg h, hk3, if_neg h9, if_pos rfl, show ((12 : Int32) + ((5 : Int32) * nI c)) + (0 : Int32) = nI (12 + 5 * c + 0) from ixk c 0, m_becomes (by omega), Option.bind_some, e79]
          rfl
        · refine hI.kid hc (d1 := pI d (3 + 10 + c) 0 (nI k')) (fun a ha => pI_ne ha) (fun a ha => pI_ne ha) (fun j hj => by rw [u79, upd_n (by omega)]) ?_ ?_
          · obtain ⟨q0, q2, q3, q4, q1, qs⟩ := hK
            rw [u79, e79]
            refine ⟨by rw [pI_ne (by omega), ps, upd_s], by rw [pI_ne (by omega), pk (by decide), upd_n (by omega)]; exact q2, by rw [pI_ne (by omega), pk (by decide), upd_n (by omega)]; exact q3, by rw [pI_ne (by omega), pk (by decide), upd_n (by omega)]; exact q4, fun z => ?_, by rw [pI_ne (by omega), pk (by decide)]; exact qs⟩
            rw [upd_n (by omega)] at z
            rw [pI_ne (by omega), pk (by decide), upd_n (by omega)]
            exact q1 z
          · rw [u79, e79]
            have := hG.2.2.2.2.2.2.1 c hc
            obtain ⟨-, g2, g3, g4⟩ := this
            exact ⟨⟨k', hk', upd_s⟩, by rw [upd_n (by omega), upd_n (by omega)]; exact g2, by rw [upd_n (by omega)]; exact g3, by rw [upd_n (by omega)]; exact g4⟩
    · rw [if_neg c0] at hx0
      by_cases c1 : a2 = 1
      · subst c1
        rw [if_pos rfl] at hx0
        by_cases h9 : f_X8_within a3 0 99 = 0
        · rw [if_pos h9] at hx0
          exact ⟨_, _, hx0, mno (Or.inr (fun q => q.elim (fun z => c0 z.1) (fun z => z.2 h9))), rfl, hI⟩
        · rw [if_neg h9] at hx0
          obtain ⟨k', hk', rfl⟩ := (wi0_iff 99 (by omega)).mp h9
          have e79 : (pI d (3 + 10 + c) 3 (nI k')).1 79 = d.1 79 := pI_ne (by omega)
          refine ⟨_, (d.1 79 (12 + 5 * c + 3), pI (pI d (3 + 10 + c) 3 (nI k')) 79 (12 + 5 * c + 3) (nI k')), hx0, ?_, hK.2.2.1, ?_⟩
          · unfold f_X9_alter f_X9_alter_J33
            rw [if_neg c0, if_pos rfl, m_isSkill, if_neg h9, M_cls, if_pos rfl, mch _ e79, Option.bind_some, if_neg h, if_neg one_ne, if_neg c0, show ((12 : Int32) + ((5 : Int32) * nI c)) + (3 : Int32) = nI (12 + 5 * c + 3) from ixk c 3, m_becomes (by omega), Option.bind_some, e79]
          · refine hI.kid hc (d1 := pI d (3 + 10 + c) 3 (nI k')) (fun a ha => pI_ne ha) (fun a ha => pI_ne ha) (fun j hj => by rw [u79, upd_n (by omega)]) ?_ ?_
            · obtain ⟨q0, q2, q3, q4, q1, qs⟩ := hK
              rw [u79, e79]
              refine ⟨by rw [pI_ne (by omega), pk (by decide), upd_n (by omega)]; exact q0, by rw [pI_ne (by omega), pk (by decide), upd_n (by omega)]; exact q2, by rw [pI_ne (by omega), ps, upd_s], by rw [pI_ne (by omega), pk (by decide), upd_n (by omega)]; exact q4, fun z => ?_, by rw [pI_ne (by omega), pk (by decide)]; exact qs⟩
              rw [upd_n (by omega)] at z
              rw [pI_ne (by omega), pk (by decide), upd_n (by omega)]
              exact q1 z
            · rw [u79, e79]
              have := hG.2.2.2.2.2.2.1 c hc
              obtain ⟨g1, g2, -, g4⟩ := this
              exact ⟨by rw [upd_n (by omega)]; exact g1, by rw [upd_n (by omega), upd_n (by omega)]; exact g2, ⟨k', hk', upd_s⟩, by rw [upd_n (by omega)]; exact g4⟩
      · rw [if_neg c1] at hx0
        exact ⟨_, _, hx0, mno (Or.inr (fun q => q.elim (fun z => c0 z.1) (fun z => c1 z.1))), rfl, hI⟩
