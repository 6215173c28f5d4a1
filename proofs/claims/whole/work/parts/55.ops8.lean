/-! ===== keep, back, sheet, lay, count ===== -/
def mvR (a b : Nat) (n : Nat) (r : Rw) : Rw := fun j => if a ≤ j ∧ j < a + n then r (b + (j - a)) else r j
theorem mvR_succ {a b n : Nat} {r : Rw} (h : a + 60 ≤ b ∨ b + 60 ≤ a) (hn : n < 60) : upd (mvR a b n r) (a + n) (mvR a b n r (b + n)) = mvR a b (n + 1) r := by
  funext j
  unfold mvR
  by_cases e : j = a + n
  · subst e
    rw [upd_s, if_neg (by omega), if_pos (by omega)]
    congr 1; omega
  · rw [upd_n e]
    by_cases h1 : a ≤ j ∧ j < a + n
    · rw [if_pos h1, if_pos (by omega)]
    · rw [if_neg h1, if_neg (by omega)]
theorem m_copies_L {a b : Nat} {r : Rw} (h : a + 60 ≤ b ∨ b + 60 ≤ a) (ha : a + 60 ≤ 180) (hb : b + 60 ≤ 180) : ∀ (n c : Nat) (d : Dt), c ≤ 60 → 60 - c < n → d.1 79 = mvR a b c r → f_X9_copies_L2 L0 78 (nI a) (nI b) n (nI c) d = some (sR d 79 (mvR a b 60 r)) := by
  intro n
  induction n with
  | zero => intro c d h1 h2; omega
  | succ n ih =>
    intro c d h1 h2 e
    unfold f_X9_copies_L2
    by_cases hc : c < 60
    · rw [if_neg (fun q => by have := (nI_leI (a := 60) (b := c) (by omega) (by omega)).mp q; omega), M_st, Option.bind_some, nI_add, Mo_st (by omega), if_pos rfl, nI_add, Mo_st (by omega), if_pos rfl, nI_1, nI_clamp (by omega), nI_clamp (by omega), ih (c + 1) _ (by omega) (by omega) (by rw [pI_self, e, mvR_succ h hc]), pI_sR, sR_sR]
    · have : c = 60 := by omega
      subst this
      rw [if_pos (by decide), ← e, sR_id]
theorem m_copies {a b : Nat} (h : a + 60 ≤ b ∨ b + 60 ≤ a) (ha : a + 60 ≤ 180) (hb : b + 60 ≤ 180) (d : Dt) : f_X9_copies L0 d 78 (nI a) (nI b) = some (sR d 79 (mvR a b 60 (d.1 79))) :=
  m_copies_L (r := d.1 79) h ha hb FU 0 d (by omega) (by unfold FU; omega) (by funext j; unfold mvR; rw [if_neg (by omega)])
theorem Im.mv2 {d d' : Dt} {k : Nat} (hk : k < 2) (h : Im d k) (e35 : d'.1 35 k = d.1 35 k) (e81 : d'.1 81 k = d.1 81 k) (e : ∀ a, 40 + 15 * k ≤ a → a < 40 + 15 * k + 15 → d'.1 a = d.1 a) (e79 : ∀ j, 60 * (k + 1) ≤ j → j < 60 * (k + 1) + 60 → d'.1 79 j = d.1 79 j) : Im d' k := by
  obtain ⟨a1, a2⟩ := h
  have ei : Eq60 (im d k) (im d' k) := fun j hj => (e79 _ (by omega) (by omega)).symm
  refine ⟨by rw [e35, e81]; exact a1, ?_⟩
  rw [e81]
  rcases a2 with a2 | ⟨a2, a3, a4⟩
  · exact Or.inl a2
  · exact Or.inr ⟨a2, RW.eq ei a4.1.2 a4.2.2.2.2.1.2 (a3.mv e a4.1.2), a4.eq ei⟩
theorem two_k {v : Int32} : ¬ f_X8_isImage v = 0 ↔ ∃ k, k < 2 ∧ v = nI k := by
  unfold f_X8_isImage
  have h := wi_iff (v := v) (a := 0) (b := 1) (by omega) (by omega)
  refine Iff.trans h ?_
  constructor
  · rintro ⟨c, -, h2, e⟩; exact ⟨c, by omega, e⟩
  · rintro ⟨c, h2, e⟩; exact ⟨c, by omega, by omega, e⟩
theorem i60k (k : Nat) : (60 : Int32) * (nI k + 1) = nI (60 * (k + 1)) := by
  rw [nI_1, show (60 : Int32) = nI 60 from rfl, nI_mul]
theorem nb1 : vp_nar .boolean 1 = 1 := by decide
theorem st_keep {d : Dt} (hI : Inv d) (a1 : Int32) : ∃ (z1 : Int32 × Dt) (z2 : Int32 × Dt), f_X8_keep L0 d 0 a1 = some z1 ∧ f_X9_keep L0 z1.2 78 a1 = some z2 ∧ z1.1 = z2.1 ∧ Inv z2.2 := by
  obtain ⟨hR, hG, h3, h4, h5, h6, h7⟩ := id hI
  have hin : f_X9_in a1.toInt64 (0 : Int64) (1 : Int64) = f_X8_isImage a1 := in_w0 a1 1 (by omega) 1 rfl
  by_cases h : f_X8_isImage a1 = 0
  · exact ⟨(-1, d), (-1, d), by unfold f_X8_keep; rw [if_pos h], by unfold f_X9_keep; rw [hin, if_pos h], rfl, hI⟩
  · obtain ⟨k, hk, rfl⟩ := two_k.mp h
    obtain ⟨d1, e1, hR1, hB1⟩ := x_copy (w := 3) (w' := 40 + 15 * k) isW3 (isWi hk) (by omega) hG hR
    have hx : f_X8_keep L0 d 0 (nI k) = some (if d.1 35 k = 0 then 0 else 1, pI d1 35 k 1) := by
      have J : ∀ y, f_X8_keep_J23 L0 d 0 (nI k) y = some (y, pI d1 35 k 1) := fun y => by
        unfold f_X8_keep_J23
        rw [X_images, Option.bind_some, I_ra hk, Option.bind_some, X_world, Option.bind_some, W_cls (isWi hk), if_pos rfl, e1, Option.bind_some, X_kept, Option.bind_some, K_ok hk, if_pos rfl, nb1, nI_clamp (by omega)]
      unfold f_X8_keep
      rw [if_neg h, X_kept, Option.bind_some, K_ok hk, if_pos rfl, nI_clamp (by omega), J, J]
      by_cases h0 : d.1 35 k = 0
      · rw [if_pos h0, if_pos h0]
      · rw [if_neg h0, if_neg h0]
    have q81 : (pI d1 35 k 1).1 81 = d.1 81 := by rw [pI_ne (by omega), hB1.1 81 (by omega)]
    have q79 : (pI (pI d1 35 k 1) 81 k 1).1 79 = d.1 79 := by rw [pI_ne (by omega), pI_ne (by omega), hB1.1 79 (by omega)]
    refine ⟨_, (f_X9_flag (d.1 81 k), sR (pI (pI d1 35 k 1) 81 k 1) 79 (mvR (60 * (k + 1)) 0 60 (d.1 79))), hx, ?_, ?_, ?_⟩
    · show f_X9_keep L0 (pI d1 35 k 1) 78 (nI k) = _
      unfold f_X9_keep
      rw [hin, if_neg h, M_kept, Option.bind_some, Mo_kept hk, if_pos rfl, M_cls, if_pos rfl, nI_clamp (by omega), nb1, q81, i60k, show (0 : Int32) = nI 0 from rfl, m_copies (by omega) (by omega) (by omega), Option.bind_some, q79]
    · show (if d.1 35 k = 0 then (0 : Int32) else 1) = f_X9_flag (d.1 81 k)
      obtain ⟨a1, a2⟩ := h3 k hk
      rw [a1]
      rcases a2 with a2 | ⟨a2, -⟩ <;> rw [a2] <;> decide
    · have D79 : (sR (pI (pI d1 35 k 1) 81 k 1) 79 (mvR (60 * (k + 1)) 0 60 (d.1 79))).1 79 = mvR (60 * (k + 1)) 0 60 (d.1 79) := sR_self
      have D81 : (sR (pI (pI d1 35 k 1) 81 k 1) 79 (mvR (60 * (k + 1)) 0 60 (d.1 79))).1 81 = upd (d.1 81) k 1 := by rw [sR_ne (by omega), pI_self, q81]
      have D35 : (sR (pI (pI d1 35 k 1) 81 k 1) 79 (mvR (60 * (k + 1)) 0 60 (d.1 79))).1 35 = upd (d.1 35) k 1 := by rw [sR_ne (by omega), pI_ne (by omega), pI_self, hB1.1 35 (by omega)]
      have Dn : ∀ a, a ≠ 79 → a ≠ 81 → a ≠ 35 → (sR (pI (pI d1 35 k 1) 81 k 1) 79 (mvR (60 * (k + 1)) 0 60 (d.1 79))).1 a = d1.1 a := fun a x y z => by rw [sR_ne x, pI_ne y, pI_ne z]
      generalize (sR (pI (pI d1 35 k 1) 81 k 1) 79 (mvR (60 * (k + 1)) 0 60 (d.1 79))) = D at *
      have Dm : ∀ a, a ≠ 79 → a ≠ 81 → a ≠ 35 → (a < 40 + 15 * k ∨ 40 + 15 * k + 15 ≤ a) → D.1 a = d.1 a := fun a x y z w => by rw [Dn a x y z, hB1.1 a w]
      have m0 : Eq60 (d.1 79) (D.1 79) := fun j hj => by rw [D79]; unfold mvR; rw [if_neg (by omega)]
      refine ⟨RW.eq m0 hG.1.2 hG.2.2.2.2.1.2 (hR.mv (fun a _ _ => Dm a (by omega) (by omega) (by omega) (by omega)) hG.1.2), hG.eq m0, fun k' hk' => ?_, h4.mv (Dm 1 (by omega) (by omega) (by omega) (by omega)) (Dm 2 (by omega) (by omega) (by omega) (by omega)) (Dm 83 (by omega) (by omega) (by omega) (by omega)) (by rw [Dm 78 (by omega) (by omega) (by omega) (by omega)]), by rw [Dm 0 (by omega) (by omega) (by omega) (by omega), Dm 78 (by omega) (by omega) (by omega) (by omega)]; exact h5, by rw [Dm 0 (by omega) (by omega) (by omega) (by omega), Dm 78 (by omega) (by omega) (by omega) (by omega)]; exact h6, fun s hs => (h7 s hs).mv hs (fun a _ _ => Dm a (by omega) (by omega) (by omega) (by omega)) (Dm 86 (by omega) (by omega) (by omega) (by omega)) (Dm 87 (by omega) (by omega) (by omega) (by omega)) (Dm 88 (by omega) (by omega) (by omega) (by omega))⟩
      by_cases e : k' = k
      · subst e
        have ei : Eq60 (d.1 79) (im D k') := fun j hj => by
          show _ = D.1 79 (60 * (k' + 1) + j)
          rw [D79]; unfold mvR; rw [if_pos (by omega), show 0 + (60 * (k' + 1) + j - 60 * (k' + 1)) = j by omega]
        refine ⟨by rw [D35, D81, upd_s, upd_s], Or.inr ⟨by rw [D81, upd_s], RW.eq ei hG.1.2 hG.2.2.2.2.1.2 (hR1.mv (fun a _ _ => Dn a (by omega) (by omega) (by omega)) hG.1.2), hG.eq ei⟩⟩
      · refine (h3 k' hk').mv2 hk' (by rw [D35, upd_n e]) (by rw [D81, upd_n e]) (fun a _ _ => Dm a (by omega) (by omega) (by omega) (by omega)) (fun j _ _ => by rw [D79]; unfold mvR; rw [if_neg (by omega)])
theorem st_back {d : Dt} (hI : Inv d) (a1 : Int32) : ∃ (z1 : Int32 × Dt) (z2 : Int32 × Dt), f_X8_back L0 d 0 a1 = some z1 ∧ f_X9_back L0 z1.2 78 a1 = some z2 ∧ z1.1 = z2.1 ∧ Inv z2.2 := by
  obtain ⟨hR, hG, h3, h4, h5, h6, h7⟩ := id hI
  have hin : f_X9_in a1.toInt64 (0 : Int64) (1 : Int64) = f_X8_isImage a1 := in_w0 a1 1 (by omega) 1 rfl
  by_cases h : f_X8_isImage a1 = 0
  · exact ⟨(-1, d), (-1, d), by unfold f_X8_back; rw [if_pos h], by unfold f_X9_back; rw [hin, if_pos h], rfl, hI⟩
  · obtain ⟨k, hk, rfl⟩ := two_k.mp h
    obtain ⟨a1, a2⟩ := h3 k hk
    rcases a2 with a2 | ⟨a2, iR, iG⟩
    · refine ⟨(-2, d), (-2, d), ?_, ?_, rfl, hI⟩
      · unfold f_X8_back
        rw [if_neg h, X_kept, Option.bind_some, K_ok hk, if_pos rfl, nI_clamp (by omega), a1, a2, if_pos rfl]
      · unfold f_X9_back
        rw [hin, if_neg h, M_kept, Option.bind_some, Mo_kept hk, if_pos rfl, nI_clamp (by omega), a2, if_pos rfl]
    · obtain ⟨d1, e1, hR1, hB1⟩ := x_copy (w := 40 + 15 * k) (w' := 3) (isWi hk) isW3 (by omega) iG iR
      have hx : f_X8_back L0 d 0 (nI k) = some (d1.1 3 5, d1) := by
        unfold f_X8_back
        rw [if_neg h, X_kept, Option.bind_some, K_ok hk, if_pos rfl, nI_clamp (by omega), a1, a2, if_neg one_ne, X_images, X_world, Option.bind_some, Option.bind_some, I_ra hk, Option.bind_some, W_cls isW3, if_pos rfl, e1, Option.bind_some]
      have e79 : d1.1 79 = d.1 79 := hB1.1 79 (by omega)
      have e81 : d1.1 81 = d.1 81 := hB1.1 81 (by omega)
      have r40 : mvR 0 (60 * (k + 1)) 60 (d.1 79) 40 = im d k 40 := by unfold mvR im; rw [if_pos (by omega)]
      refine ⟨_, (im d k 40, sR d1 79 (mvR 0 (60 * (k + 1)) 60 (d.1 79))), hx, ?_, hR1.1.2.2.2.1, ?_⟩
      · show f_X9_back L0 d1 78 (nI k) = _
        unfold f_X9_back
        rw [hin, if_neg h, M_kept, Option.bind_some, Mo_kept hk, if_pos rfl, nI_clamp (by omega), e81, a2, if_neg one_ne, M_cls, if_pos rfl, i60k, show (0 : Int32) = nI 0 from rfl, m_copies (by omega) (by omega) (by omega), Option.bind_some, M_st, Option.bind_some, mo40, if_pos rfl, t40, sR_self, e79, r40]
      · have ei : Eq60 (im d k) ((sR d1 79 (mvR 0 (60 * (k + 1)) 60 (d.1 79))).1 79) := fun j hj => by
          rw [sR_self]
          unfold mvR im
          rw [if_pos (by omega)]; congr 1
        refine hI.upd (fun a ha hn _ => by rw [sR_ne hn, hB1.1 a (by omega)]) (fun j hj => by rw [sR_self]; unfold mvR; rw [if_neg (by omega)]) (RW.eq ei iG.1.2 iG.2.2.2.2.1.2 (hR1.mv (fun a _ _ => sR_ne (by omega)) iG.1.2)) (iG.eq ei)
theorem x_fill_L {q : Nat} {r : Rw} (hok : ∀ i, i < 40 → okA L0 q 1 (nI i) = true) : ∀ (n c : Nat) (d : Dt), c ≤ 40 → 40 - c < n → d.1 q = cpn c (fun _ => 0) r → f_J7_fill_53178_L5 L0 q 0 (nI 40) n (nI c) d = some (sR d q (cpn 40 (fun _ => 0) r)) := by
  intro n
  induction n with
  | zero => intro c d h1 h2; omega
  | succ n ih =>
    intro c d h1 h2 e
    unfold f_J7_fill_53178_L5
    by_cases hc : c < 40
    · rw [if_neg (fun q => by have := (nI_leI (a := 40) (b := c) (by omega) (by omega)).mp q; omega), hok c hc, if_pos rfl, nI_1, nI_clamp (by omega), ih (c + 1) _ (by omega) (by omega) (by rw [pI_self, e]; exact cpn_succ c (fun _ => 0) r), pI_sR, sR_sR]
    · have : c = 40 := by omega
      subst this
      rw [if_pos (by decide), ← e, sR_id]
theorem x_renew {k : Nat} (hk : k < 4) (d : Dt) (l m : Int32) : f_X5_renew L0 d (70 + 2 * k) l m = some (pI (pI (sR d (71 + 2 * k) (cpn 40 (fun _ => 0) (d.1 (71 + 2 * k)))) (70 + 2 * k) 1 l) (70 + 2 * k) 2 m) := by
  unfold f_X5_renew f_J7_fill_53178
  rw [S_ce hk, Option.bind_some, S_ln hk, Option.bind_some, show Int32.ofNat 40 = nI 40 from rfl]
  rw [show f_J7_fill_53178_L5 L0 (71 + 2 * k) 0 (nI 40) FU 0 d = _ from x_fill_L (q := 71 + 2 * k) (r := d.1 (71 + 2 * k)) (fun i hi => S_ok hk hi) FU 0 d (by omega) (by unfold FU; omega) (by funext j; simp [cpn]), Option.bind_some, S_cls hk, if_pos rfl]
theorem i40k (k i : Nat) : (40 : Int32) * nI k + nI i = nI (40 * k + i) := by
  rw [show (40 : Int32) = nI 40 from rfl, nI_mul, nI_add]
def zrR (k n : Nat) (r : Rw) : Rw := fun j => if 40 * k ≤ j ∧ j < 40 * k + n then 0 else r j
theorem m_sheet_L {k : Nat} (hk : k < 4) {r : Rw} : ∀ (n c : Nat) (d : Dt), c ≤ 40 → 40 - c < n → d.1 88 = zrR k c r → f_X9_sheet_L40 L0 78 (nI k) n (nI c) d = some (1, sR d 88 (zrR k 40 r)) := by
  intro n
  induction n with
  | zero => intro c d h1 h2; omega
  | succ n ih =>
    intro c d h1 h2 e
    unfold f_X9_sheet_L40
    by_cases hc : c < 40
    · rw [if_neg (fun q => by have := (nI_leI (a := 40) (b := c) (by omega) (by omega)).mp q; omega), M_cel, Option.bind_some, i40k, Mo_cel (by omega), if_pos rfl, nI_1, nI_clamp (by omega), ih (c + 1) _ (by omega) (by omega) ?_, pI_sR, sR_sR]
      rw [pI_self, e]
      funext j
      unfold zrR
      by_cases e : j = 40 * k + c
      · subst e; rw [upd_s, if_pos (by omega)]
      · rw [upd_n e]
        by_cases h1 : 40 * k ≤ j ∧ j < 40 * k + c
        · rw [if_pos h1, if_pos (by omega)]
        · rw [if_neg h1, if_neg (by omega)]
    · have : c = 40 := by omega
      subst this
      rw [if_pos (by decide), ← e, sR_id]
/-- Inv behind a change of the sheets -/
theorem Inv.sheets {d d' : Dt} (h : Inv d) (e : ∀ a, (a < 70 ∨ 77 < a) → a ≠ 86 → a ≠ 87 → a ≠ 88 → d'.1 a = d.1 a) (hS : ∀ k, k < 4 → Sh d' k) : Inv d' := by
  obtain ⟨h1, h2, h3, h4, h5, h6, h7⟩ := h
  have e79 : d'.1 79 = d.1 79 := e 79 (by omega) (by omega) (by omega) (by omega)
  refine ⟨?_, by rw [e79]; exact h2, fun k hk => (h3 k hk).mv hk (fun a _ _ => e a (by omega) (by omega) (by omega) (by omega)) (fun j _ => by rw [e79]) (e 81 (by omega) (by omega) (by omega) (by omega)), h4.mv (e 1 (by omega) (by omega) (by omega) (by omega)) (e 2 (by omega) (by omega) (by omega) (by omega)) (e 83 (by omega) (by omega) (by omega) (by omega)) (by rw [e 78 (by omega) (by omega) (by omega) (by omega)]), ?_, ?_, hS⟩
  · rw [e79]
    exact h1.mv (fun a _ _ => e a (by omega) (by omega) (by omega) (by omega)) h2.1.2
  · rw [e 0 (by omega) (by omega) (by omega) (by omega), e 78 (by omega) (by omega) (by omega) (by omega)]; exact h5
  · rw [e 0 (by omega) (by omega) (by omega) (by omega), e 78 (by omega) (by omega) (by omega) (by omega)]; exact h6
theorem sh_iff {v : Int32} : ¬ f_X8_isSheet v = 0 ↔ ∃ s, s < 4 ∧ v = nI s := seas_iff
theorem ln_iff {v : Int32} : ¬ f_X8_isLane v = 0 ↔ ∃ s, s < 3 ∧ v = nI s := by
  unfold f_X8_isLane
  have h := wi_iff (v := v) (a := 0) (b := 2) (by omega) (by omega)
  refine Iff.trans h ?_
  constructor
  · rintro ⟨c, -, h2, e⟩; exact ⟨c, by omega, e⟩
  · rintro ⟨c, h2, e⟩; exact ⟨c, by omega, by omega, e⟩
theorem m_isSheet (v w : Int32) : f_X9_isSheet v w = if f_X8_isSheet v = 0 then 0 else if f_X8_isLane w = 0 then 0 else 1 := by
  unfold f_X9_isSheet
  rw [show f_X9_in v.toInt64 (0 : Int64) (3 : Int64) = f_X8_isSheet v from in_w0 v 3 (by omega) 3 rfl, show f_X9_in w.toInt64 (0 : Int64) (2 : Int64) = f_X8_isLane w from in_w0 w 2 (by omega) 2 rfl]
theorem st_sheet {d : Dt} (hI : Inv d) (a1 a2 a3 : Int32) : ∃ (z1 : Int32 × Dt) (z2 : Int32 × Dt), f_X8_sheet L0 d 0 a1 a2 a3 = some z1 ∧ f_X9_sheet L0 z1.2 78 a1 a2 a3 = some z2 ∧ z1.1 = z2.1 ∧ Inv z2.2 := by
  by_cases h : f_X8_isSheet a1 = 0
  · exact ⟨(-1, d), (-1, d), by unfold f_X8_sheet; rw [if_pos h], by unfold f_X9_sheet; rw [m_isSheet, if_pos h, if_pos rfl], rfl, hI⟩
  by_cases h2 : f_X8_isLane a2 = 0
  · exact ⟨(-1, d), (-1, d), by unfold f_X8_sheet; rw [if_neg h, if_pos h2], by unfold f_X9_sheet; rw [m_isSheet, if_neg h, if_pos h2, if_pos rfl], rfl, hI⟩
  have hm : f_X9_isSheet a1 a2 = 1 := by rw [m_isSheet, if_neg h, if_neg h2]
  by_cases h3 : ¬ a3 ≤ 40
  · exact ⟨(-1, d), (-1, d), by unfold f_X8_sheet; rw [if_neg h, if_neg h2, if_neg h3], by unfold f_X9_sheet; rw [hm, if_neg one_ne, if_neg h3], rfl, hI⟩
  have h3 := Decidable.not_not.mp h3
  by_cases h4 : ¬ 0 ≤ a3
  · exact ⟨(-14, d), (-14, d), by unfold f_X8_sheet; rw [if_neg h, if_neg h2, if_pos h3, if_neg h4], by unfold f_X9_sheet; rw [hm, if_neg one_ne, if_pos h3, if_neg h4], rfl, hI⟩
  have h4 := Decidable.not_not.mp h4
  obtain ⟨k, hk, rfl⟩ := sh_iff.mp h
  obtain ⟨l, hl, rfl⟩ := ln_iff.mp h2
  obtain ⟨n, hn, rfl⟩ := nI_of2 (M := 40) (n := 40) (by decide) (Int32.not_lt.mpr h4) h3
  have hx : f_X8_sheet L0 d 0 (nI k) (nI l) (nI n) = some (1, pI (pI (sR d (71 + 2 * k) (cpn 40 (fun _ => 0) (d.1 (71 + 2 * k)))) (70 + 2 * k) 1 (nI l)) (70 + 2 * k) 2 (nI n)) := by
    unfold f_X8_sheet
    rw [if_neg h, if_neg h2, if_pos h3, if_pos h4, X_sheets, Option.bind_some, S_ra hk, Option.bind_some, S_cls hk, if_pos rfl, x_renew hk, Option.bind_some]
  generalize hd1 : pI (pI (sR d (71 + 2 * k) (cpn 40 (fun _ => 0) (d.1 (71 + 2 * k)))) (70 + 2 * k) 1 (nI l)) (70 + 2 * k) 2 (nI n) = d1 at hx
  have x71 : d1.1 (71 + 2 * k) = cpn 40 (fun _ => 0) (d.1 (71 + 2 * k)) := by rw [← hd1, pI_ne (by omega), pI_ne (by omega), sR_self]
  have x701 : d1.1 (70 + 2 * k) 1 = nI l := by rw [← hd1, pk (by decide), ps]
  have x702 : d1.1 (70 + 2 * k) 2 = nI n := by rw [← hd1, ps]
  have xn : ∀ a, a ≠ 70 + 2 * k → a ≠ 71 + 2 * k → d1.1 a = d.1 a := fun a x y => by rw [← hd1, pI_ne x, pI_ne x, sR_ne y]
  refine ⟨_, (1, sR (pI (pI d1 86 k (nI l)) 87 k (nI n)) 88 (zrR k 40 (d.1 88))), hx, ?_, rfl, ?_⟩
  · show f_X9_sheet L0 d1 78 (nI k) (nI l) (nI n) = _
    unfold f_X9_sheet
    rw [hm, if_neg one_ne, if_pos h3, if_pos h4, M_lan, Option.bind_some, Mo_lan hk, if_pos rfl, M_siz, Option.bind_some, Mo_siz hk, if_pos rfl, nI_clamp (by omega)]
    exact m_sheet_L hk (r := d.1 88) FU 0 _ (by omega) (by unfold FU; omega) (by rw [pI_ne (by omega), pI_ne (by omega), xn 88 (by omega) (by omega)]; funext j; unfold zrR; rw [if_neg (by omega)])
  · have D88 : (sR (pI (pI d1 86 k (nI l)) 87 k (nI n)) 88 (zrR k 40 (d.1 88))).1 88 = zrR k 40 (d.1 88) := sR_self
    have D87 : (sR (pI (pI d1 86 k (nI l)) 87 k (nI n)) 88 (zrR k 40 (d.1 88))).1 87 = upd (d.1 87) k (nI n) := by rw [sR_ne (by omega), pI_self, pI_ne (by omega), xn 87 (by omega) (by omega)]
    have D86 : (sR (pI (pI d1 86 k (nI l)) 87 k (nI n)) 88 (zrR k 40 (d.1 88))).1 86 = upd (d.1 86) k (nI l) := by rw [sR_ne (by omega), pI_ne (by omega), pI_self, xn 86 (by omega) (by omega)]
    have Dn : ∀ a, a ≠ 86 → a ≠ 87 → a ≠ 88 → (sR (pI (pI d1 86 k (nI l)) 87 k (nI n)) 88 (zrR k 40 (d.1 88))).1 a = d1.1 a := fun a x y z => by rw [sR_ne z, pI_ne y, pI_ne x]
    generalize (sR (pI (pI d1 86 k (nI l)) 87 k (nI n)) 88 (zrR k 40 (d.1 88))) = D at *
    refine hI.sheets (fun a h1 x y z => by rw [Dn a x y z, xn a (by omega) (by omega)]) (fun k' hk' => ?_)
    by_cases e : k' = k
    · subst e
      refine Or.inr ⟨l, n, hl, hn, by rw [Dn _ (by omega) (by omega) (by omega), x701], by rw [D86, upd_s], by rw [Dn _ (by omega) (by omega) (by omega), x702], by rw [D87, upd_s], fun i hi => ?_⟩
      rw [Dn _ (by omega) (by omega) (by omega), x71, D88]
      unfold cpn zrR
      rw [if_pos hi, if_pos (by omega)]
    · have := hI.2.2.2.2.2.2 k' hk'
      unfold Sh at *
      rw [Dn _ (by omega) (by omega) (by omega), Dn (71 + 2 * k') (by omega) (by omega) (by omega), xn _ (by omega) (by omega), xn (71 + 2 * k') (by omega) (by omega), D86, D87, upd_n e, upd_n e]
      have hz : ∀ i, i < 40 → D.1 88 (40 * k' + i) = d.1 88 (40 * k' + i) := fun i hi => by rw [D88]; unfold zrR; rw [if_neg (by omega)]
      rcases this with h0 | ⟨l, n, q1, q2, q3, q4, q5, q6, q7⟩
      · exact Or.inl h0
      · exact Or.inr ⟨l, n, q1, q2, q3, q4, q5, q6, fun i hi => by rw [hz i hi]; exact q7 i hi⟩
theorem Sh.no {d : Dt} {k : Nat} (hk : k < 4) (h : Sh d k) : f_X5_isNothing L0 d (70 + 2 * k) = some (if d.1 86 k = -4 then 1 else 0) := by
  unfold f_X5_isNothing
  rw [S_cls hk, if_pos rfl]
  rcases h with ⟨h1, h2⟩ | ⟨l, n, q1, q2, q3, q4, q5, q6, q7⟩
  · rw [h1, h2, if_pos rfl, if_pos rfl]
  · rw [q4, q5, if_neg (nI_ne4 (by omega)), if_neg (nI_ne4 (by omega))]
theorem m10_1 : (-10 : Int32) - 1 = -11 := by decide
theorem m10_2 : (-10 : Int32) - 2 = -12 := by decide
theorem st_lay {d : Dt} (hI : Inv d) (a1 a2 a3 : Int32) : ∃ (z1 : Int32 × Dt) (z2 : Int32 × Dt), f_X8_lay L0 d 0 a1 a2 a3 = some z1 ∧ f_X9_lay L0 z1.2 78 a1 a2 a3 = some z2 ∧ z1.1 = z2.1 ∧ Inv z2.2 := by
  have hl0 : ¬ f_X8_isLane 0 = 0 := by decide
  by_cases h : f_X8_isSheet a1 = 0
  · exact ⟨(-1, d), (-1, d), by unfold f_X8_lay; rw [if_pos h], by unfold f_X9_lay; rw [m_isSheet, if_pos h, if_pos rfl], rfl, hI⟩
  have hm : f_X9_isSheet a1 0 = 1 := by rw [m_isSheet, if_neg h, if_neg hl0]
  obtain ⟨k, hk, rfl⟩ := sh_iff.mp h
  have hS := hI.2.2.2.2.2.2 k hk
  by_cases hn : d.1 86 k = -4
  · refine ⟨(-11, d), (-11, d), ?_, ?_, rfl, hI⟩
    · unfold f_X8_lay f_X5_faultIn
      rw [if_neg h, X_sheets, Option.bind_some, S_ra hk, Option.bind_some, S_cls hk, if_pos rfl, if_pos rfl, hS.no hk, if_pos hn, Option.bind_some, if_neg one_ne, Option.bind_some, if_neg one_ne, m10_1]
    · unfold f_X9_lay
      rw [hm, if_neg one_ne, M_lan, Option.bind_some, Mo_lan hk, if_pos rfl, nI_clamp (by omega), if_pos hn]
  · have hno := hS.no hk
    rw [if_neg hn] at hno
    rcases hS with h0 | ⟨l, n, q1, q2, q3, q4, q5, q6, q7⟩
    · exact absurd h0.2 hn
    have hx0 : f_X8_lay L0 d 0 (nI k) a2 a3 = if f_X8_within a2 0 (nI n - 1) = 0 then some (-12, d) else (f_X5_put L0 d (70 + 2 * k) a2 a3).bind fun z7 => some (1, z7) := by
      unfold f_X8_lay f_X5_faultIn
      rw [if_neg h, X_sheets, Option.bind_some, S_ra hk, Option.bind_some, S_cls hk, if_pos rfl, if_pos rfl, hno, Option.bind_some, if_pos rfl, if_pos rfl, q5]
      by_cases hw : f_X8_within a2 0 (nI n - 1) = 0
      · rw [if_pos hw, if_pos hw, Option.bind_some, if_neg (by decide), m10_2]
      · rw [if_neg hw, if_neg hw, Option.bind_some, if_pos rfl]
    by_cases hw : f_X8_within a2 0 (nI n - 1) = 0
    · rw [if_pos hw] at hx0
      refine ⟨(-12, d), (-12, d), hx0, ?_, rfl, hI⟩
      unfold f_X9_lay
      rw [hm, if_neg one_ne, M_lan, Option.bind_some, Mo_lan hk, if_pos rfl, nI_clamp (by omega), if_neg hn, M_siz, Option.bind_some, Mo_siz hk, if_pos rfl, in_wx, q6, if_pos hw]
    · rw [if_neg hw] at hx0
      obtain ⟨i, hi, rfl⟩ := (has_iff (by omega)).mp hw
      -- one value, put on both sides
      have key : ∃ v : Int32, f_X5_put L0 d (70 + 2 * k) (nI i) a3 = some (pI d (71 + 2 * k) i v) ∧ ∀ d1 : Dt, d1.1 86 = d.1 86 → d1.1 87 = d.1 87 → f_X9_lay L0 d1 78 (nI k) (nI i) a3 = some (1, pI d1 88 (40 * k + i) v) := by
        have hmm : ∀ d1 : Dt, d1.1 86 = d.1 86 → d1.1 87 = d.1 87 → f_X9_lay L0 d1 78 (nI k) (nI i) a3 = if nI l = 0 then some (1, pI d1 88 (40 * k + i) a3.toInt8.toInt32) else if nI l = 1 then some (1, pI d1 88 (40 * k + i) a3.toInt16.toInt32) else some (1, pI d1 88 (40 * k + i) a3) := by
          intro d1 e6 e7
          unfold f_X9_lay
          rw [hm, if_neg one_ne, M_lan, Option.bind_some, Mo_lan hk, if_pos rfl, nI_clamp (by omega), e6, if_neg hn, M_siz, Option.bind_some, Mo_siz hk, if_pos rfl, in_wx, e7, q6, if_neg hw, M_cel, Option.bind_some, q4, i40k, Mo_cel (by omega), if_pos rfl, if_pos rfl, if_pos rfl, nI_clamp (by omega)]
        have hxx : f_X5_put L0 d (70 + 2 * k) (nI i) a3 = if nI l = 0 then some (pI d (71 + 2 * k) i a3.toInt8.toInt32) else if nI l = 1 then some (pI d (71 + 2 * k) i a3.toInt16.toInt32) else some (pI d (71 + 2 * k) i a3) := by
          unfold f_X5_put
          rw [S_cls hk, if_pos rfl, q3, S_ce hk, Option.bind_some, Option.bind_some, Option.bind_some, S_ok hk (by omega), if_pos rfl, if_pos rfl, if_pos rfl, nI_clamp (by omega)]
        rw [hxx]
        by_cases l0 : nI l = 0
        · exact ⟨_, by rw [if_pos l0], fun d1 e6 e7 => by rw [hmm d1 e6 e7, if_pos l0]⟩
        · by_cases l1 : nI l = 1
          · exact ⟨_, by rw [if_neg l0, if_pos l1], fun d1 e6 e7 => by rw [hmm d1 e6 e7, if_neg l0, if_pos l1]⟩
          · exact ⟨_, by rw [if_neg l0, if_neg l1], fun d1 e6 e7 => by rw [hmm d1 e6 e7, if_neg l0, if_neg l1]⟩
      obtain ⟨v, k1, k2⟩ := key
      rw [k1, Option.bind_some] at hx0
      refine ⟨_, (1, pI (pI d (71 + 2 * k) i v) 88 (40 * k + i) v), hx0, k2 _ (pI_ne (by omega)) (pI_ne (by omega)), rfl, ?_⟩
      refine hI.sheets (fun a h1 x y z => by rw [pI_ne z, pI_ne (by omega)]) (fun k' hk' => ?_)
      by_cases e : k' = k
      · subst e
        refine Or.inr ⟨l, n, q1, q2, by rw [pI_ne (by omega), pI_ne (by omega)]; exact q3, by rw [pI_ne (by omega), pI_ne (by omega)]; exact q4, by rw [pI_ne (by omega), pI_ne (by omega)]; exact q5, by rw [pI_ne (by omega), pI_ne (by omega)]; exact q6, fun j hj => ?_⟩
        rw [pI_ne (by omega), pI_self, pI_self, pI_ne (by omega)]
        by_cases ej : j = i
        · subst ej; rw [upd_s, upd_s]
        · rw [upd_n ej, upd_n (by omega)]; exact q7 j hj
      · have := hI.2.2.2.2.2.2 k' hk'
        unfold Sh at *
        rw [pI_ne (by omega), pI_ne (by omega), pI_ne (show 71 + 2 * k' ≠ 88 by omega), pI_ne (show 71 + 2 * k' ≠ 71 + 2 * k by omega), pI_ne (show 86 ≠ 88 by omega), pI_ne (show 86 ≠ 71 + 2 * k by omega), pI_ne (show 87 ≠ 88 by omega), pI_ne (show 87 ≠ 71 + 2 * k by omega)]
        rcases this with h0 | ⟨l, n, q1, q2, q3, q4, q5, q6, q7⟩
        · exact Or.inl h0
        · exact Or.inr ⟨l, n, q1, q2, q3, q4, q5, q6, fun j hj => by rw [pI_self, upd_n (by omega), pI_ne (by omega)]; exact q7 j hj⟩
