/-! ===== count, bind, born ===== -/
theorem x_countKept_L {d : Dt} (h : ∀ k, k < 2 → d.1 35 k = 0 ∨ d.1 35 k = 1) : ∀ (n c : Nat) (v : Int32), c ≤ 2 → 2 - c < n → f_X8_countKept_L4 L0 d 0 n v (nI c) = some (fo (fun s i => s + d.1 35 i) (2 - c) c v) := by
  intro n
  induction n with
  | zero => intro c v h1 h2; omega
  | succ n ih =>
    intro c v h1 h2
    unfold f_X8_countKept_L4
    by_cases hc : c < 2
    · rw [if_neg (fun q => by have := (nI_leI (a := 2) (b := c) (by omega) (by omega)).mp q; omega), X_kept, Option.bind_some, K_ok hc, if_pos rfl, nI_1, nI_clamp (by omega), ih (c + 1) _ (by omega) (by omega), ih (c + 1) _ (by omega) (by omega), fo_succ hc]
      rcases h c hc with e | e
      · rw [if_pos e, e, show v + (0 : Int32) = v from Int32.add_zero v]
      · rw [e, if_neg one_ne]
    · have : c = 2 := by omega
      subst this
      rw [if_pos (by decide)]
      rfl
theorem x_countKept {d : Dt} (h : ∀ k, k < 2 → d.1 35 k = 0 ∨ d.1 35 k = 1) : f_X8_countKept L0 d 0 = some (0 + d.1 35 0 + d.1 35 1) := x_countKept_L h FU 0 0 (by omega) (by unfold FU; omega)
theorem m_count_L {d : Dt} {v1 : Int32} {k : Int32 → Int32 → Option (Int32 × Dt)} : ∀ (n c : Nat) (v : Int32), c ≤ 4 → 4 - c < n → f_X9_count_L8 L0 d 78 v1 k n v (nI c) = k (fo (fun s i => s + d.1 80 (3 * i)) (4 - c) c v) 4 := by
  intro n
  induction n with
  | zero => intro c v h1 h2; omega
  | succ n ih =>
    intro c v h1 h2
    unfold f_X9_count_L8
    by_cases hc : c < 4
    · rw [if_neg (fun q => by have := (nI_leI (a := 4) (b := c) (by omega) (by omega)).mp q; omega), M_now, Option.bind_some, show ((3 : Int32) * nI c) + (0 : Int32) = nI (3 * c + 0) from ix3 c 0, Mo_now (by omega), if_pos rfl, nI_1, nI_clamp (by omega), ih (c + 1) _ (by omega) (by omega), fo_succ hc]
      rfl
    · have : c = 4 := by omega
      subst this
      rw [if_pos (by decide)]
      rfl
theorem st_count {d : Dt} (hI : Inv d) (a1 : Int32) : ∃ (z1 : Int32) (z2 : Int32 × Dt), f_X8_count L0 d 0 a1 = some z1 ∧ f_X9_count L0 d 78 a1 = some z2 ∧ z1 = z2.1 ∧ Inv z2.2 := by
  obtain ⟨hR, hG, h3, h4, -, -, h7⟩ := id hI
  have hG2 := sd_good (d := d) hG
  have h5 := hG.1.2
  have hI2 := hI.mv sd_sc
  have e79 : (sd d).1 79 = d.1 79 := sd_ne (by omega)
  have e81 : (sd d).1 81 = d.1 81 := sd_ne (by omega)
  have e78 : (sd d).1 78 = d.1 78 := sd_ne (by omega)
  have e86 : (sd d).1 86 = d.1 86 := sd_ne (by omega)
  have e87 : (sd d).1 87 = d.1 87 := sd_ne (by omega)
  have o0 : okA L0 81 3 (0 : Int32) = true := Mo_kept (j := 0) (by omega)
  have o1 : okA L0 81 3 (1 : Int32) = true := Mo_kept (j := 1) (by omega)
  have o2 : okA L0 86 1 (0 : Int32) = true := Mo_lan (j := 0) (by omega)
  have o3 : okA L0 87 1 (0 : Int32) = true := Mo_siz (j := 0) (by omega)
  have t0 : (0 : Int32).toNatClampNeg = 0 := rfl
  have t1 : (1 : Int32).toNatClampNeg = 1 := rfl
  have s0 := h7 0 (by omega)
  have c35 : ∀ k, k < 2 → d.1 35 k = 0 ∨ d.1 35 k = 1 := fun k hk => by
    obtain ⟨a, b⟩ := h3 k hk
    rw [a]
    rcases b with b | ⟨b, -⟩
    · exact Or.inl b
    · exact Or.inr b
  unfold f_X8_count f_X9_count
  rw [show f_X9_starts L0 d 78 = _ from sd_st, Option.bind_some]
  rw [show ∀ k, f_X9_count_L8 L0 (sd d) 78 a1 k FU 0 0 = _ from fun k => m_count_L (k := k) FU 0 0 (by omega) (by unfold FU; omega)]
  simp only [X_world, Option.bind_some, W_cls isW3, if_true, M_cls, X_cls, x_countKept c35, X_tape, T_cls, X_sheets, show ra L0 36 6 (0 : Int32) = some 70 from S_ra (k := 0) (by omega), show clsAt L0 70 = some 5 from S_cls (k := 0) (by omega), show f_X5_isNothing L0 d 70 = _ from s0.no (by omega), x_lengthSum isW3 hR, x_termSum isW3 hR hG, M_st, mo41, t41, e79, M_kept, o0, o1, t0, t1, e81, e78, M_lan, o2, e86, M_siz, o3, e87, show f_X9_sumOf L0 (sd d) 78 (2 : Int32) = _ from m_sumOf (k := 2) hG2.1.1 hG2.1.2 (by omega)]
  by_cases c0 : a1 = 0
  · simp only [if_pos c0]; exact ⟨_, _, rfl, rfl, hR.1.2.2.2.2, hI2⟩
  simp only [if_neg c0]
  by_cases c1 : a1 = 1
  · simp only [if_pos c1]
    refine ⟨_, _, rfl, rfl, ?_, hI2⟩
    obtain ⟨a, -⟩ := h3 0 (by omega)
    obtain ⟨b, -⟩ := h3 1 (by omega)
    show 0 + d.1 35 0 + d.1 35 1 = f_X9_flag (d.1 81 0) + f_X9_flag (d.1 81 1)
    rw [← a, ← b]
    rcases c35 0 (by omega) with a | a <;> rcases c35 1 (by omega) with b | b <;> rw [a, b] <;> decide
  simp only [if_neg c1]
  by_cases c2 : a1 = 2
  · simp only [if_pos c2]
    obtain ⟨n, hn, e1, e2, -⟩ := h4
    exact ⟨_, _, rfl, rfl, e1.trans e2.symm, hI2⟩
  simp only [if_neg c2]
  by_cases c3 : a1 = 3
  · simp only [if_pos c3]
    by_cases hb : d.1 86 0 = -4
    · simp only [if_pos hb, if_neg one_ne]
      exact ⟨_, _, rfl, rfl, rfl, hI2⟩
    · simp only [if_neg hb, if_true]
      refine ⟨_, _, rfl, rfl, ?_, hI2⟩
      rcases s0 with h0 | ⟨l, n, q1, q2, q3, q4, q5, q6, q7⟩
      · exact absurd h0.2 hb
      · exact q5.trans q6.symm
  simp only [if_neg c3]
  by_cases c4 : a1 = 4
  · simp only [if_pos c4]
    refine ⟨_, _, rfl, rfl, ?_, hI2⟩
    show fo (fun (s : Int32) i => s + d.1 79 (3 * i)) 4 0 0 = fo (fun (s : Int32) i => s + (sd d).1 80 (3 * i)) 4 0 0
    exact fo_congr 4 0 0 (fun s i _ h2 => by rw [sd_80 (3 * i) (by omega)])
  simp only [if_neg c4]
  by_cases c5 : a1 = 5
  · simp only [if_pos c5]; exact ⟨_, _, rfl, rfl, sumK_eq60 sd_80.sy h5 (by omega), hI2⟩
  simp only [if_neg c5]
  exact ⟨_, _, rfl, rfl, rfl, hI2⟩
/-! bind: one function of a row -/
def apR (r : Rw) (v1 v2 v3 : Int32) : Rw := upd (upd r (12 + 5 * v1.toNatClampNeg + 1) v2) (12 + 5 * v1.toNatClampNeg + 2) v3
def apF (r : Rw) (v1 v2 v3 : Int32) : Int32 × Rw := if f_X8_within v1 0 (r 37 - 1) = 0 then (-1, r) else if f_X8_isSeason v2 = 0 then (-1, r) else if f_X8_within v3 1 99 = 0 then (-1, r) else if r (12 + 5 * v1.toNatClampNeg + 1) = -4 then (f_J6_bitCount_0f7a4 (bndB (apR r v1 v2 v3) v2), apR r v1 v2 v3) else (-2, r)
theorem bit5 (b : Nat → Bool) (n : Nat) (hn : n ≤ 5) (z : Int32) (hz : z = fo (fun (s : Int32) i => if b i = true then s ||| bitI i else s) n 0 0) : fo (fun (s : Int32) i => s + ((z >>> (nI i &&& 31)) &&& 1)) 5 0 0 = f_J6_bitCount_0f7a4 z := by
  have key : ∀ (n : Fin 6) (x0 x1 x2 x3 x4 : Bool), fo (fun (s : Int32) i => s + (((fo (fun (s : Int32) i => if [x0, x1, x2, x3, x4].getD i false = true then s ||| bitI i else s) n.val 0 0) >>> (nI i &&& 31)) &&& 1)) 5 0 0 = f_J6_bitCount_0f7a4 (fo (fun (s : Int32) i => if [x0, x1, x2, x3, x4].getD i false = true then s ||| bitI i else s) n.val 0 0) := by decide +kernel
  have k1 := key ⟨n, by omega⟩ (b 0) (b 1) (b 2) (b 3) (b 4)
  have hb : ∀ i, i < 5 → [b 0, b 1, b 2, b 3, b 4].getD i false = b i := by
    intro i hi
    rcases (show i = 0 ∨ i = 1 ∨ i = 2 ∨ i = 3 ∨ i = 4 by omega) with rfl | rfl | rfl | rfl | rfl <;> rfl
  have hfo : z = fo (fun (s : Int32) i => if [b 0, b 1, b 2, b 3, b 4].getD i false = true then s ||| bitI i else s) n 0 0 := hz.trans (fo_congr n 0 0 (fun s i _ h2 => by rw [hb i (by omega)]))
  rw [hfo]
  exact k1
theorem bit5b {r : Rw} (h5 : nk r ≤ 5) (v : Int32) : fo (fun (s : Int32) i => s + ((bndB r v >>> (nI i &&& 31)) &&& 1)) 5 0 0 = f_J6_bitCount_0f7a4 (bndB r v) := by
  refine bit5 (fun i => decide (r (12 + 5 * i + 1) = v)) (nk r) h5 _ ?_
  simp only [decide_eq_true_eq]
  rfl
theorem x_app {d : Dt} {w : Nat} {r : Rw} (hw : isW w) (hR : RW d w r) (hG : Good r) (v1 v2 v3 : Int32) : ∃ d', f_X7_apprentice L0 d w v1 v2 v3 = some ((apF r v1 v2 v3).1, d') ∧ RW d' w (apF r v1 v2 v3).2 ∧ Good (apF r v1 v2 v3).2 ∧ Bw w d d' := by
  have h5 := hG.1.2
  unfold f_X7_apprentice apF
  rw [W_cls hw, if_pos rfl, x_has hw hR, Option.bind_some]
  by_cases h : f_X8_within v1 0 (r 37 - 1) = 0
  · rw [if_pos h, if_pos h]; exact ⟨d, rfl, hR, hG, Bw.rf⟩
  rw [if_neg h, if_neg h]
  by_cases h2 : f_X8_isSeason v2 = 0
  · rw [if_pos h2, if_pos h2]; exact ⟨d, rfl, hR, hG, Bw.rf⟩
  rw [if_neg h2, if_neg h2]
  by_cases h3 : f_X8_within v3 1 99 = 0
  · rw [if_pos h3, if_pos h3]; exact ⟨d, rfl, hR, hG, Bw.rf⟩
  rw [if_neg h3, if_neg h3]
  rw [hG.1.1] at h
  obtain ⟨c, hc, rfl⟩ := (has_iff (by omega)).mp h
  obtain ⟨s, hs, rfl⟩ := seas_iff.mp h2
  obtain ⟨t, ht1, ht2, rfl⟩ := (wi_iff (a := 1) (b := 99) (by omega) (by omega)).mp h3
  have hc5 : c < 5 := by omega
  have hK := hR.2.2.1 c hc
  have hg := hG.2.2.2.2.2.2.1 c hc
  rw [W_ch hw, Option.bind_some, W_rac hw hc5, Option.bind_some, W_ccl hw hc5, if_pos rfl, x_isFree hw hR hG hc, Option.bind_some, nI_clamp (by omega)]
  by_cases hb : r (12 + 5 * c + 1) = -4
  · have ec : (nI c).toNatClampNeg = c := nI_clamp (by omega)
    have hGa : Good (apR r (nI c) (nI s) (nI t)) := by
      obtain ⟨g1, g2, g3, g4⟩ := hg
      refine hG.kid hc (fun j hj => by unfold apR; rw [ec, upd_n (by omega), upd_n (by omega)]) ?_
      unfold apR GK
      rw [ec, upd_n (by omega), upd_n (by omega), upd_s, upd_n (by omega), upd_s, upd_n (by omega), upd_n (by omega), upd_n (by omega), upd_n (by omega)]
      exact ⟨g1, ⟨t, ht2, rfl, Or.inr ⟨by omega, s, hs, rfl⟩⟩, g3, g4⟩
    have hRa : RW (pI (pI d (w + 10 + c) 1 (nI s)) (w + 10 + c) 2 (nI t)) w (apR r (nI c) (nI s) (nI t)) := by
      refine hR.kid h5 hc (fun a ha => by rw [pI_ne ha, pI_ne ha]) (fun j hj => by unfold apR; rw [ec, upd_n (by omega), upd_n (by omega)]) ?_
      obtain ⟨q0, q2, q3, q4, q1, qs⟩ := hK
      unfold apR
      rw [ec]
      refine ⟨by rw [pk (by decide), pk (by decide), upd_n (by omega), upd_n (by omega)]; exact q0, by rw [ps, upd_s], by rw [pk (by decide), pk (by decide), upd_n (by omega), upd_n (by omega)]; exact q3, by rw [pk (by decide), pk (by decide), upd_n (by omega), upd_n (by omega)]; exact q4, fun z => by rw [pk (by decide), ps, upd_n (by omega), upd_s], ⟨s, hs, by rw [pk (by decide), ps]⟩⟩
    rw [if_pos hb, if_neg one_ne, if_pos hb, x_boundTo hs hw hRa hGa, Option.bind_some]
    exact ⟨_, rfl, hRa, hGa, (Bw.pI (by omega)).tr (Bw.pI (by omega))⟩
  · rw [if_neg hb, if_pos rfl, if_neg hb]
    exact ⟨d, rfl, hR, hG, Bw.rf⟩
theorem m_bind_L {d : Dt} {v2 : Int32} (hG : Good (d.1 79)) : ∀ (n c : Nat) (v : Int32), c ≤ 5 → 5 - c < n → f_X9_bind_L74 L0 d 78 v2 n v (nI c) = some (fo (fun (s : Int32) i => s + ((bndB (d.1 79) v2 >>> (nI i &&& 31)) &&& 1)) (5 - c) c v, d) := by
  intro n
  induction n with
  | zero => intro c v h1 h2; omega
  | succ n ih =>
    intro c v h1 h2
    unfold f_X9_bind_L74
    by_cases hc : c < 5
    · rw [if_neg (fun q => by have := (nI_leI (a := 5) (b := c) (by omega) (by omega)).mp q; omega), M_cls, if_pos rfl, m_boundTo hG.1.1 hG.1.2, Option.bind_some, nI_1, ih (c + 1) _ (by omega) (by omega), fo_succ hc]
    · have : c = 5 := by omega
      subst this
      rw [if_pos (by decide)]
      rfl
theorem m_bind {d : Dt} (hG : Good (d.1 79)) (v1 v2 v3 : Int32) (hGa : Good (apF (d.1 79) v1 v2 v3).2) : f_X9_bind L0 d 78 v1 v2 v3 = some ((apF (d.1 79) v1 v2 v3).1, sR d 79 (apF (d.1 79) v1 v2 v3).2) := by
  have h5 := hG.1.2
  revert hGa
  unfold f_X9_bind apF
  rw [M_cls, if_pos rfl, m_isChild, Option.bind_some, m_isSeason, show f_X9_in v3.toInt64 (1 : Int64) (99 : Int64) = f_X8_within v3 1 99 from in_w1 v3 99 (by omega) 99 rfl]
  by_cases h : f_X8_within v1 0 (d.1 79 37 - 1) = 0
  · rw [if_pos h, if_pos h]; intro _; show _ = some (-1, sR d 79 (d.1 79)); rw [sR_id]
  rw [if_neg h, if_neg h]
  by_cases h2 : f_X8_isSeason v2 = 0
  · rw [if_pos h2, if_pos h2]; intro _; show _ = some (-1, sR d 79 (d.1 79)); rw [sR_id]
  rw [if_neg h2, if_neg h2]
  by_cases h3 : f_X8_within v3 1 99 = 0
  · rw [if_pos h3, if_pos h3]; intro _; show _ = some (-1, sR d 79 (d.1 79)); rw [sR_id]
  rw [if_neg h3, if_neg h3]
  rw [hG.1.1] at h
  obtain ⟨c, hc, rfl⟩ := (has_iff (by omega)).mp h
  have hc5 : c < 5 := by omega
  have ec : (nI c).toNatClampNeg = c := nI_clamp (by omega)
  rw [m_isBound hc5, Option.bind_some, ec]
  by_cases hb : d.1 79 (12 + 5 * c + 1) = -4
  · rw [if_pos hb, if_pos hb, if_pos rfl]
    intro hGa
    have hGa : Good (apR (d.1 79) (nI c) v2 v3) := hGa
    have er : (pI (pI d 79 (12 + 5 * c + 1) v2) 79 (12 + 5 * c + 2) v3) = sR d 79 (apR (d.1 79) (nI c) v2 v3) := by
      unfold apR
      rw [pI_sR, pI_sR, sR_sR, sR_self, ec]
    rw [M_st, Option.bind_some, show ((12 : Int32) + ((5 : Int32) * nI c)) + (1 : Int32) = nI (12 + 5 * c + 1) from ixk c 1, Mo_st (by omega), if_pos rfl, show ((12 : Int32) + ((5 : Int32) * nI c)) + (2 : Int32) = nI (12 + 5 * c + 2) from ixk c 2, Mo_st (by omega), if_pos rfl, nI_clamp (by omega), nI_clamp (by omega), er]
    rw [show f_X9_bind_L74 L0 (sR d 79 (apR (d.1 79) (nI c) v2 v3)) 78 v2 FU 0 0 = _ from m_bind_L (by rw [sR_self]; exact hGa) FU 0 0 (by omega) (by unfold FU; omega), sR_self, bit5b hGa.1.2]
  · rw [if_neg hb, if_neg hb, if_neg one_ne]
    intro _
    show _ = some (-2, sR d 79 (d.1 79))
    rw [sR_id]
theorem apF_hi {r : Rw} (hG : Good r) {v1 v2 v3 : Int32} {j : Nat} (hj : 37 ≤ j) : (apF r v1 v2 v3).2 j = r j := by
  have h5 := hG.1.2
  unfold apF
  by_cases h : f_X8_within v1 0 (r 37 - 1) = 0
  · rw [if_pos h]
  rw [if_neg h]
  rw [hG.1.1] at h
  obtain ⟨c, hc, rfl⟩ := (has_iff (by omega)).mp h
  have ec : (nI c).toNatClampNeg = c := nI_clamp (by omega)
  rw [ec]
  split
  · rfl
  · split
    · rfl
    · split
      · show apR r (nI c) v2 v3 j = r j
        unfold apR
        rw [ec, upd_n (by omega), upd_n (by omega)]
      · rfl
theorem st_bind {d : Dt} (hI : Inv d) (a1 a2 a3 : Int32) : ∃ (z1 : Int32 × Dt) (z2 : Int32 × Dt), f_X8_bind L0 d 0 a1 a2 a3 = some z1 ∧ f_X9_bind L0 z1.2 78 a1 a2 a3 = some z2 ∧ z1.1 = z2.1 ∧ Inv z2.2 := by
  obtain ⟨hR, hG, -⟩ := id hI
  obtain ⟨d1, e1, hR1, hG1, hB1⟩ := x_app isW3 hR hG a1 a2 a3
  have e79 : d1.1 79 = d.1 79 := hB1.1 79 (by omega)
  refine ⟨((apF (d.1 79) a1 a2 a3).1, d1), ((apF (d.1 79) a1 a2 a3).1, sR d1 79 (apF (d.1 79) a1 a2 a3).2), ?_, ?_, rfl, ?_⟩
  · unfold f_X8_bind
    rw [X_world, Option.bind_some, W_cls isW3, if_pos rfl, e1, Option.bind_some]
  · show f_X9_bind L0 d1 78 a1 a2 a3 = _
    rw [m_bind (by rw [e79]; exact hG) a1 a2 a3 (by rw [e79]; exact hG1), e79]
  · exact hI.upd (fun a ha hn _ => by rw [sR_ne hn, hB1.1 a (by omega)]) (fun j hj => by rw [sR_self, apF_hi hG (by omega)]) (by rw [sR_self]; exact hR1.mv (fun a _ _ => sR_ne (by omega)) hG1.1.2) (by rw [sR_self]; exact hG1)
def boR (r : Rw) (k : Int32) : Rw := fun j => if j = 37 then nI (nk r + 1) else if j = 12 + 5 * nk r then k else if j = 12 + 5 * nk r + 1 then -4 else if 12 + 5 * nk r + 2 ≤ j ∧ j ≤ 12 + 5 * nk r + 4 then 0 else r j
theorem st_born {d : Dt} (hI : Inv d) (a1 : Int32) : ∃ (z1 : Int32 × Dt) (z2 : Int32 × Dt), f_X8_born L0 d 0 a1 = some z1 ∧ f_X9_born L0 z1.2 78 a1 = some z2 ∧ z1.1 = z2.1 ∧ Inv z2.2 := by
  obtain ⟨hR, hG, -⟩ := id hI
  have h5 := hG.1.2
  have hin : f_X9_in a1.toInt64 (0 : Int64) (3 : Int64) = f_X8_isKind a1 := in_w0 a1 3 (by omega) 3 rfl
  by_cases h : f_X8_isKind a1 = 0
  · exact ⟨(-1, d), (-1, d), by unfold f_X8_born; rw [if_pos h], by unfold f_X9_born; rw [hin, if_pos h], rfl, hI⟩
  obtain ⟨k, hk, rfl⟩ := k_iff.mp h
  have e2 : d.1 3 2 = nI (nk (d.1 79)) := hR.sz hG
  have e37 := hG.1.1
  by_cases hf : nk (d.1 79) < 5
  · have hr0 : ∀ j, j ≠ 37 → ¬ (12 + 5 * nk (d.1 79) ≤ j ∧ j < 12 + 5 * nk (d.1 79) + 5) → boR (d.1 79) (nI k) j = d.1 79 j := fun j x y => by unfold boR; rw [if_neg x, if_neg (by omega), if_neg (by omega), if_neg (by omega)]
    have hr37 : boR (d.1 79) (nI k) 37 = nI (nk (d.1 79) + 1) := by unfold boR; rw [if_pos rfl]
    have hrk0 : boR (d.1 79) (nI k) (12 + 5 * nk (d.1 79)) = nI k := by unfold boR; rw [if_neg (by omega), if_pos rfl]
    have hrk1 : boR (d.1 79) (nI k) (12 + 5 * nk (d.1 79) + 1) = -4 := by unfold boR; rw [if_neg (by omega), if_neg (by omega), if_pos rfl]
    have hrk2 : ∀ j, 2 ≤ j → j ≤ 4 → boR (d.1 79) (nI k) (12 + 5 * nk (d.1 79) + j) = 0 := fun j x y => by unfold boR; rw [if_neg (by omega), if_neg (by omega), if_neg (by omega), if_pos (by omega)]
    have hmr : ∀ D : Dt, D.1 79 = d.1 79 → f_X9_born L0 D 78 (nI k) = some (nI (nk (d.1 79) + 1), sR D 79 (boR (d.1 79) (nI k))) := by
      intro D hD
      have q4 : ¬ nI (nk (d.1 79)) = 5 := fun q => by have := nI_inj (b := 5) (by omega) (by omega) q; omega
      unfold f_X9_born
      rw [hin, if_neg h, M_st, Option.bind_some, mo37, if_pos rfl, t37, hD, e37, if_neg q4, show ((12 : Int32) + ((5 : Int32) * nI (nk (d.1 79)))) + (0 : Int32) = nI (12 + 5 * nk (d.1 79) + 0) from ixk _ 0, show ((12 : Int32) + ((5 : Int32) * nI (nk (d.1 79)))) + (1 : Int32) = nI (12 + 5 * nk (d.1 79) + 1) from ixk _ 1, show ((12 : Int32) + ((5 : Int32) * nI (nk (d.1 79)))) + (2 : Int32) = nI (12 + 5 * nk (d.1 79) + 2) from ixk _ 2, show ((12 : Int32) + ((5 : Int32) * nI (nk (d.1 79)))) + (3 : Int32) = nI (12 + 5 * nk (d.1 79) + 3) from ixk _ 3, show ((12 : Int32) + ((5 : Int32) * nI (nk (d.1 79)))) + (4 : Int32) = nI (12 + 5 * nk (d.1 79) + 4) from ixk _ 4, Mo_st (by omega), if_pos rfl, Mo_st (by omega), if_pos rfl, Mo_st (by omega), if_pos rfl, Mo_st (by omega), if_pos rfl, Mo_st (by omega), if_pos rfl, nI_clamp (by omega), nI_clamp (by omega), nI_clamp (by omega), nI_clamp (by omega), nI_clamp (by omega), ps, pk (by omega), pk (by omega), pk (by omega), pk (by omega), pk (by omega), hD, e37, nI_1]
      congr 2
      rw [pI_sR, pI_sR, pI_sR, pI_sR, pI_sR, pI_sR, sR_sR, sR_sR, sR_sR, sR_sR, sR_sR, sR_self, sR_self, sR_self, sR_self, sR_self, hD]
      congr 1
      funext j
      unfold boR
      by_cases c1 : j = 37
      · rw [if_pos c1, c1, upd_s]
      rw [if_neg c1, upd_n c1]
      by_cases c2 : j = 12 + 5 * nk (d.1 79) + 4
      · rw [c2, upd_s, if_neg (by omega), if_neg (by omega), if_pos (by omega)]
      rw [upd_n c2]
      by_cases c3 : j = 12 + 5 * nk (d.1 79) + 3
      · rw [c3, upd_s, if_neg (by omega), if_neg (by omega), if_pos (by omega)]
      rw [upd_n c3]
      by_cases c4 : j = 12 + 5 * nk (d.1 79) + 2
      · rw [c4, upd_s, if_neg (by omega), if_neg (by omega), if_pos (by omega)]
      rw [upd_n c4]
      by_cases c5 : j = 12 + 5 * nk (d.1 79) + 1
      · rw [c5, upd_s, if_neg (by omega), if_pos rfl]
      rw [upd_n c5]
      by_cases c6 : j = 12 + 5 * nk (d.1 79) + 0
      · rw [c6, upd_s, if_pos (by omega)]
      rw [upd_n c6, if_neg (by omega), if_neg (by omega), if_neg (by omega)]
    have en : nk (boR (d.1 79) (nI k)) = nk (d.1 79) + 1 := by
      show (boR (d.1 79) (nI k) 37).toNatClampNeg = _
      rw [hr37, nI_clamp (by omega)]
    have es : ns (boR (d.1 79) (nI k)) = ns (d.1 79) := by unfold ns; rw [hr0 41 (by omega) (by omega)]
    generalize hnn : nk (d.1 79) = n at *
    have hx : f_X8_born L0 d 0 (nI k) = some (nI (n + 1), pI (pI (pI (pI (pI (pI d (3 + 10 + n) 0 (nI k)) (3 + 10 + n) 1 0) (3 + 10 + n) 2 0) (3 + 10 + n) 3 0) (3 + 10 + n) 4 0) 3 2 (nI (n + 1))) := by
      unfold f_X8_born f_X7_add f_X1_renew
      rw [if_neg h, X_world, Option.bind_some, W_cls isW3, if_pos rfl, e2, if_pos (show nI n < 5 from nI_lt (b := 5) hf (by omega)), if_pos rfl, if_neg (fun q => by have := (nI_leI (a := 5) (b := n) (by omega) (by omega)).mp q; omega), W_ch isW3, Option.bind_some, W_rac isW3 hf, Option.bind_some, W_ccl isW3 hf, if_pos rfl, if_pos rfl, Option.bind_some, Option.bind_some, ps, pI_ne (by omega), pI_ne (by omega), pI_ne (by omega), pI_ne (by omega), pI_ne (by omega), e2, nI_1]
    generalize hd1 : pI (pI (pI (pI (pI (pI d (3 + 10 + n) 0 (nI k)) (3 + 10 + n) 1 0) (3 + 10 + n) 2 0) (3 + 10 + n) 3 0) (3 + 10 + n) 4 0) 3 2 (nI (n + 1)) = d1 at hx
    have xn : ∀ a, a ≠ 3 → a ≠ 3 + 10 + n → d1.1 a = d.1 a := fun a x y => by rw [← hd1, pI_ne x, pI_ne y, pI_ne y, pI_ne y, pI_ne y, pI_ne y]
    have x3 : d1.1 3 = upd (d.1 3) 2 (nI (n + 1)) := by rw [← hd1, pI_self, pI_ne (by omega), pI_ne (by omega), pI_ne (by omega), pI_ne (by omega), pI_ne (by omega)]
    have y0 : d1.1 (3 + 10 + n) 0 = nI k := by rw [← hd1, pI_ne (by omega), pk (by decide), pk (by decide), pk (by decide), pk (by decide), ps]
    have y1 : d1.1 (3 + 10 + n) 1 = 0 := by rw [← hd1, pI_ne (by omega), pk (by decide), pk (by decide), pk (by decide), ps]
    have y2 : d1.1 (3 + 10 + n) 2 = 0 := by rw [← hd1, pI_ne (by omega), pk (by decide), pk (by decide), ps]
    have y3 : d1.1 (3 + 10 + n) 3 = 0 := by rw [← hd1, pI_ne (by omega), pk (by decide), ps]
    have y4 : d1.1 (3 + 10 + n) 4 = 0 := by rw [← hd1, pI_ne (by omega), ps]
    have e79 : d1.1 79 = d.1 79 := xn 79 (by omega) (by omega)
    have hRn : RW d1 3 (boR (d.1 79) (nI k)) := by
      obtain ⟨⟨r1, r2, r3, r4, r5⟩, r6, r7, r8⟩ := hR
      refine ⟨⟨by rw [x3, upd_s, hr37], by rw [x3, upd_n (by decide), hr0 38 (by omega) (by omega)]; exact r2, by rw [x3, upd_n (by decide), hr0 39 (by omega) (by omega)]; exact r3, by rw [x3, upd_n (by decide), hr0 40 (by omega) (by omega)]; exact r4, by rw [x3, upd_n (by decide), hr0 41 (by omega) (by omega)]; exact r5⟩, fun s hs => by rw [xn _ (by omega) (by omega), hr0 _ (by omega) (by omega), hr0 _ (by omega) (by omega), hr0 _ (by omega) (by omega)]; exact r6 s hs, fun c hc => ?_, fun i hi => ?_⟩
      · rw [en] at hc
        by_cases e : c = n
        · subst e
          refine ⟨by rw [y0, hrk0], by rw [y2, hrk2 2 (by omega) (by omega)], by rw [y3, hrk2 3 (by omega) (by omega)], by rw [y4, hrk2 4 (by omega) (by omega)], fun z => absurd (hrk2 2 (by omega) (by omega)) z, ⟨0, by omega, y1⟩⟩
        · have := r7 c (by omega)
          unfold KR at *
          rw [xn _ (by omega) (by omega), hr0 _ (by omega) (by omega), hr0 _ (by omega) (by omega), hr0 _ (by omega) (by omega), hr0 _ (by omega) (by omega), hr0 _ (by omega) (by omega)]
          exact this
      · rw [es] at hi
        have hns := hG.2.2.2.2.1.2
        rw [xn _ (by omega) (by omega), xn _ (by omega) (by omega), xn _ (by omega) (by omega), hr0 _ (by omega) (by omega), hr0 _ (by omega) (by omega), hr0 _ (by omega) (by omega)]
        exact r8 i hi
    have hGn : Good (boR (d.1 79) (nI k)) := by
      obtain ⟨⟨g1, g1'⟩, g2, g3, g4, ⟨g5, g5'⟩, g6, g7, g8⟩ := hG
      refine ⟨⟨by rw [en, hr37], by rw [en]; omega⟩, by rw [hr0 38 (by omega) (by omega)]; exact g2, by rw [hr0 39 (by omega) (by omega)]; exact g3, trivial, ⟨by rw [es, hr0 41 (by omega) (by omega)]; exact g5, by rw [es]; exact g5'⟩, fun s hs => ?_, fun c hc => ?_, fun i hi => ?_⟩
      · have := g6 s hs
        unfold GS at *
        rw [hr0 _ (by omega) (by omega), hr0 _ (by omega) (by omega), hr0 _ (by omega) (by omega)]
        exact this
      · rw [en] at hc
        by_cases e : c = n
        · subst e
          exact ⟨⟨k, hk, hrk0⟩, ⟨0, by omega, hrk2 2 (by omega) (by omega), Or.inl ⟨rfl, hrk1⟩⟩, ⟨0, by omega, hrk2 3 (by omega) (by omega)⟩, ⟨0, by omega, hrk2 4 (by omega) (by omega)⟩⟩
        · have := g7 c (by omega)
          unfold GK at *
          rw [hr0 _ (by omega) (by omega), hr0 _ (by omega) (by omega), hr0 _ (by omega) (by omega), hr0 _ (by omega) (by omega), hr0 _ (by omega) (by omega)]
          exact this
      · rw [es] at hi
        rw [en, hr0 _ (by omega) (by omega), hr0 _ (by omega) (by omega), hr0 _ (by omega) (by omega)]
        obtain ⟨b1, ⟨c, b2, b3⟩, b4⟩ := g8 i hi
        exact ⟨b1, ⟨c, by omega, b3⟩, b4⟩
    refine ⟨_, _, hx, hmr d1 e79, rfl, ?_⟩
    exact hI.upd (fun a ha hn _ => by rw [sR_ne hn, xn a (by omega) (by omega)]) (fun j hj => by rw [sR_self, hr0 j (by omega) (by omega)]) (by rw [sR_self]; exact hRn.mv (fun a _ _ => sR_ne (by omega)) (by rw [en]; omega)) (by rw [sR_self]; exact hGn)
  · have hn5 : nk (d.1 79) = 5 := by omega
    refine ⟨(-3, d), (-3, d), ?_, ?_, rfl, hI⟩
    · unfold f_X8_born
      rw [if_neg h, X_world, Option.bind_some, W_cls isW3, if_pos rfl, e2, hn5, if_neg (by decide)]
    · unfold f_X9_born
      rw [hin, if_neg h, M_st, Option.bind_some, mo37, if_pos rfl, t37, e37, hn5, if_pos (show nI 5 = 5 from rfl)]
