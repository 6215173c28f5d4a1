/-! ===== place, gift, swap ===== -/
def plR (r : Rw) (c i : Nat) : Rw := upd (upd r (12 + 5 * c + 2) (if r (12 + 5 * c + 1) = -4 then 12 else r (12 + 5 * c + 2))) (12 + 5 * c + 1) (nI i)
theorem plR_good {r : Rw} (hG : Good r) {c i : Nat} (hc : c < nk r) (hi : i < 4) : Good (plR r c i) := by
  have h5 := hG.1.2
  obtain ⟨g1, ⟨t, t1, t2, t3⟩, g3, g4⟩ := hG.2.2.2.2.2.2.1 c hc
  unfold plR
  refine hG.kid hc (fun j hj => by rw [upd_n (by omega), upd_n (by omega)]) ⟨?_, ?_, ?_, ?_⟩
  · rw [upd_n (by omega), upd_n (by omega)]; exact g1
  · rw [upd_s, upd_n (by omega), upd_s]
    by_cases hb : r (12 + 5 * c + 1) = -4
    · rw [if_pos hb]; exact ⟨12, by omega, rfl, Or.inr ⟨by omega, i, hi, rfl⟩⟩
    · rw [if_neg hb]
      refine ⟨t, t1, t2, Or.inr ⟨?_, i, hi, rfl⟩⟩
      rcases t3 with ⟨a, b⟩ | ⟨a, -⟩
      · exact absurd b hb
      · exact a
  · rw [upd_n (by omega), upd_n (by omega)]; exact g3
  · rw [upd_n (by omega), upd_n (by omega)]; exact g4
theorem plR_rw {d : Dt} {w : Nat} {r : Rw} (hG : Good r) (hR : RW d w r) {c i : Nat} (hc : c < nk r) (hi : i < 4) : RW (if r (12 + 5 * c + 1) = -4 then pI (pI d (w + 10 + c) 1 (nI i)) (w + 10 + c) 2 12 else pI d (w + 10 + c) 1 (nI i)) w (plR r c i) := by
  have h5 := hG.1.2
  obtain ⟨q0, q2, q3, q4, q1, qs⟩ := hR.2.2.1 c hc
  unfold plR
  by_cases hb : r (12 + 5 * c + 1) = -4
  · rw [if_pos hb, if_pos hb]
    exact hR.kid h5 hc (fun a ha => by rw [pI_ne ha, pI_ne ha]) (fun j hj => by rw [upd_n (by omega), upd_n (by omega)]) ⟨by rw [pk (by decide), pk (by decide), upd_n (by omega), upd_n (by omega)]; exact q0, by rw [ps, upd_n (by omega), upd_s], by rw [pk (by decide), pk (by decide), upd_n (by omega), upd_n (by omega)]; exact q3, by rw [pk (by decide), pk (by decide), upd_n (by omega), upd_n (by omega)]; exact q4, fun z => by rw [pk (by decide), ps, upd_s], ⟨i, hi, by rw [pk (by decide), ps]⟩⟩
  · rw [if_neg hb, if_neg hb]
    exact hR.kid h5 hc (fun a ha => by rw [pI_ne ha]) (fun j hj => by rw [upd_n (by omega), upd_n (by omega)]) ⟨by rw [pk (by decide), upd_n (by omega), upd_n (by omega)]; exact q0, by rw [pk (by decide), upd_n (by omega), upd_s]; exact q2, by rw [pk (by decide), upd_n (by omega), upd_n (by omega)]; exact q3, by rw [pk (by decide), upd_n (by omega), upd_n (by omega)]; exact q4, fun z => by rw [ps, upd_s], ⟨i, hi, ps⟩⟩
def plF (c n : Nat) (r : Rw) (j : Int32 × Int32) (i : Nat) : Int32 × Int32 := jg j (nI i) (wkN n (plR r c i) (12 + 5 * c + 3))
theorem x_place_L {d0 : Dt} (hI : Inv d0) {c n : Nat} {v3 : Int32} (hc : c < nk (d0.1 79)) (hn : n < 900) : ∀ (f i : Nat) (d : Dt) (j : Int32 × Int32), i ≤ 4 → 4 - i < f → Jx d0 j d → ∃ D, Sc d0 D ∧ f_X8_place_L38 L0 0 (nI c) (nI n) v3 f (nI i) d = some (jt (fo (plF c n (d0.1 79)) (4 - i) i j) v3, D) := by
  have hG := hI.2.1
  have h5 := hG.1.2
  have hc5 : c < 5 := by omega
  intro f
  induction f with
  | zero => intro i d j h1 h2; omega
  | succ f ih =>
    intro i d j h1 h2 hJ
    unfold f_X8_place_L38
    by_cases hi : i < 4
    · rw [if_neg (fun q => by have := (nI_leI (a := 4) (b := i) (by omega) (by omega)).mp q; omega)]
      obtain ⟨e1, g1, hR1, hB1⟩ := x_cpJ hI hJ.1
      have hRp := plR_rw hG hR1 (i := i) hc hi
      have hGp := plR_good hG hc hi
      -- free or not, read from the term
      have hfr : f_X1_isFree L0 (pI e1 (18 + 10 + c) 1 (nI i)) (18 + 10 + c) = some (if d0.1 79 (12 + 5 * c + 1) = -4 then 1 else 0) := by
        have := x_isFree isW18 hR1 hG hc
        unfold f_X1_isFree at *
        rw [W_ccl isW18 hc5, if_pos rfl] at *
        rw [pk (by decide)]
        exact this
      have hJn : ∃ D, Sc d0 D ∧ ∀ e2 : Dt, e2 = (if d0.1 79 (12 + 5 * c + 1) = -4 then pI (pI e1 (18 + 10 + c) 1 (nI i)) (18 + 10 + c) 2 12 else pI e1 (18 + 10 + c) 1 (nI i)) → ((f_X7_pass L0 e2 18 (nI n)).bind fun z23 => (rf L0 0 8 7).bind fun q24 => if clsAt L0 q24 = some 0 then ((f_X0_offer L0 z23 q24 (nI i) (z23.1 (18 + 10 + c) 3)).bind fun z26 => f_X8_place_L38 L0 0 (nI c) (nI n) v3 f (nI i + 1) z26) else none) = some (jt (fo (plF c n (d0.1 79)) (4 - i) i j) v3, D) := by
        obtain ⟨e3, g3, hR3, hB3⟩ := x_pass (n := n) isW18 hn hGp hRp
        have hK3 := hR3.2.2.1 c (by rw [wkN_nk hGp.1.2]; exact (show c < nk (plR (d0.1 79) c i) by unfold nk plR; rw [upd_n (by omega), upd_n (by omega)]; exact hc))
        have hB0 : Bw 18 e1 (if d0.1 79 (12 + 5 * c + 1) = -4 then pI (pI e1 (18 + 10 + c) 1 (nI i)) (18 + 10 + c) 2 12 else pI e1 (18 + 10 + c) 1 (nI i)) := by
          split
          · exact (Bw.pI (by omega)).tr (Bw.pI (by omega))
          · exact Bw.pI (by omega)
        obtain ⟨e4, g4, hJ4⟩ := x_offer hJ ((hB1.tr hB0).tr hB3) (nI i) (wkN n (plR (d0.1 79) c i) (12 + 5 * c + 3))
        obtain ⟨D, hD, hq⟩ := ih (i + 1) e4 _ (by omega) (by omega) hJ4
        refine ⟨D, hD, fun e2 he2 => ?_⟩
        rw [he2, g3, Option.bind_some, X_best, Option.bind_some, B_cls, if_pos rfl, hK3.2.2.1, g4, Option.bind_some, nI_1, hq, fo_succ hi]
        rfl
      obtain ⟨D, hD, hq⟩ := hJn
      refine ⟨D, hD, ?_⟩
      rw [X_trial, Option.bind_some, X_world, Option.bind_some, W_cls isW18, if_pos rfl, g1, Option.bind_some, W_ch isW18, Option.bind_some, W_rac isW18 hc5, Option.bind_some, W_ccl isW18 hc5, if_pos rfl, hfr, Option.bind_some]
      by_cases hb : d0.1 79 (12 + 5 * c + 1) = -4
      · rw [if_pos hb, if_neg one_ne]
        exact hq _ (by rw [if_pos hb])
      · rw [if_neg hb, if_pos rfl]
        exact hq _ (by rw [if_neg hb])
    · have : i = 4 := by omega
      subst this
      rw [if_pos (by decide), X_best, Option.bind_some, B_cls, if_pos rfl, x_told hJ, Option.bind_some]
      exact ⟨d, hJ.1, rfl⟩
theorem m_place_L {d0 : Dt} (hI : Inv d0) {c n : Nat} {v3 : Int32} (hc : c < nk (d0.1 79)) (hn : n < 900) : ∀ (f i : Nat) (d : Dt) (j : Int32 × Int32), i ≤ 4 → 4 - i < f → Jm d0 j d → ∃ D, Sc d0 D ∧ f_X9_place_L32 L0 78 (nI c) (nI n) v3 f (nI i) d = some (jt (fo (plF c n (d0.1 79)) (4 - i) i j) v3, D) := by
  have hG := hI.2.1
  have h5 := hG.1.2
  have hc5 : c < 5 := by omega
  intro f
  induction f with
  | zero => intro i d j h1 h2; omega
  | succ f ih =>
    intro i d j h1 h2 hJ
    unfold f_X9_place_L32
    by_cases hi : i < 4
    · rw [if_neg (fun q => by have := (nI_leI (a := 4) (b := i) (by omega) (by omega)).mp q; omega)]
      have hsd := sd_e hJ.1
      have hJn : ∀ y, y = (if d0.1 79 (12 + 5 * c + 1) = -4 then 12 else d0.1 79 (12 + 5 * c + 2)) → ∃ D, Sc d0 D ∧ f_X9_place_J64 L0 (sd d) (f_X9_place_L32 L0 78 (nI c) (nI n) v3 f) 78 (nI c) (nI n) v3 (nI i) y 2 (nI c) 78 = some (jt (fo (plF c n (d0.1 79)) (4 - i) i j) v3, D) := by
        intro y hy
        obtain ⟨e1, g1, hE1, hB1⟩ := m_putE (d := sd d) hsd hc5 (k := 2) (by omega) y
        obtain ⟨e2, g2, hE2, hB2⟩ := m_putE (d := e1) hE1 hc5 (k := 1) (by omega) (nI i)
        rw [hy] at hE2
        obtain ⟨e3, g3, hE3, hB3⟩ := m_wkN (n := n) (r := plR (d0.1 79) c i) hE2 (plR_good hG hc hi) hn
        obtain ⟨e4, g4, hJ4⟩ := m_judges hJ (((sd_bn.tr hB1).tr hB2).tr hB3) (nI i) (wkN n (plR (d0.1 79) c i) (12 + 5 * c + 3))
        obtain ⟨D, hD, hq⟩ := ih (i + 1) e4 _ (by omega) (by omega) hJ4
        refine ⟨D, hD, ?_⟩
        unfold f_X9_place_J64
        rw [M_cls, if_pos rfl, show f_X9_becomesOf L0 (sd d) 78 (nI c) (2 : Int32) y = _ from g1, Option.bind_some, if_pos rfl, show f_X9_becomesOf L0 e1 78 (nI c) (1 : Int32) (nI i) = _ from g2, Option.bind_some, g3, Option.bind_some, show f_X9_of L0 e3 78 (nI c) (3 : Int32) = _ from m_ofr (k := 3) hE3 hc5 (by omega), Option.bind_some, g4, Option.bind_some, nI_1, hq, fo_succ hi]
        rfl
      rw [M_cls, if_pos rfl, sd_st, Option.bind_some, m_isF hsd hc5, Option.bind_some]
      by_cases hb : d0.1 79 (12 + 5 * c + 1) = -4
      · rw [if_pos hb, if_neg one_ne]
        exact hJn 12 (by rw [if_pos hb])
      · rw [if_neg hb, if_pos rfl, show f_X9_of L0 (sd d) 78 (nI c) (2 : Int32) = _ from m_ofr (k := 2) hsd hc5 (by omega), Option.bind_some]
        exact hJn _ (by rw [if_neg hb])
    · have : i = 4 := by omega
      subst this
      rw [if_pos (by decide), M_cls, if_pos rfl, m_judged hJ, Option.bind_some]
      exact ⟨d, hJ.1, rfl⟩
theorem st_place {d : Dt} (hI : Inv d) (a1 a2 a3 : Int32) : ∃ (z1 : Int32 × Dt) (z2 : Int32 × Dt), f_X8_place L0 d 0 a1 a2 a3 = some z1 ∧ f_X9_place L0 z1.2 78 a1 a2 a3 = some z2 ∧ z1.1 = z2.1 ∧ Inv z2.2 := by
  obtain ⟨hR, hG, -⟩ := id hI
  have h5 := hG.1.2
  by_cases h : f_X8_within a1 0 (d.1 79 37 - 1) = 0
  · exact ⟨(-1, d), (-1, d), by unfold f_X8_place; rw [X_world, Option.bind_some, W_cls isW3, if_pos rfl, x_has isW3 hR, Option.bind_some, if_pos h], by unfold f_X9_place; rw [M_cls, if_pos rfl, m_isChild, Option.bind_some, if_pos h], rfl, hI⟩
  by_cases h2 : f_X8_isRun a2 = 0
  · exact ⟨(-1, d), (-1, d), by unfold f_X8_place; rw [X_world, Option.bind_some, W_cls isW3, if_pos rfl, x_has isW3 hR, Option.bind_some, if_neg h, if_pos h2], by unfold f_X9_place; rw [M_cls, if_pos rfl, m_isChild, Option.bind_some, if_neg h, m_isFar, if_pos h2], rfl, hI⟩
  by_cases h3 : f_X8_isWhichOrHowMuch a3 = 0
  · exact ⟨(-1, d), (-1, d), by unfold f_X8_place; rw [X_world, Option.bind_some, W_cls isW3, if_pos rfl, x_has isW3 hR, Option.bind_some, if_neg h, if_neg h2, if_pos h3], by unfold f_X9_place; rw [M_cls, if_pos rfl, m_isChild, Option.bind_some, if_neg h, m_isFar, if_neg h2, m_isPart, if_pos h3], rfl, hI⟩
  have h' := h
  rw [hG.1.1] at h'
  obtain ⟨c, hc, rfl⟩ := (has_iff (by omega)).mp h'
  obtain ⟨n, hn, rfl⟩ := run_iff.mp h2
  obtain ⟨d1, e1, hJ1⟩ := x_seek (d := d) Sc.rf (-1)
  obtain ⟨d2, hS2, e2⟩ := x_place_L hI (v3 := a3) hc (n := n) (by omega) FU 0 d1 _ (by omega) (by unfold FU; omega) hJ1
  obtain ⟨d3, e3, hJ3⟩ := m_seek (d := d2) hS2 (-1)
  obtain ⟨d4, hS4, e4⟩ := m_place_L hI (v3 := a3) hc (n := n) (by omega) FU 0 d3 _ (by omega) (by unfold FU; omega) hJ3
  refine ⟨(jt (fo (plF c n (d.1 79)) 4 0 (-4, -1)) a3, d2), (jt (fo (plF c n (d.1 79)) 4 0 (-4, -1)) a3, d4), ?_, ?_, rfl, hI.mv hS4⟩
  · unfold f_X8_place
    rw [X_world, Option.bind_some, W_cls isW3, if_pos rfl, x_has isW3 hR, Option.bind_some, if_neg h, if_neg h2, if_neg h3, X_best, Option.bind_some, B_cls, if_pos rfl, e1, Option.bind_some]
    exact e2
  · show f_X9_place L0 d2 78 (nI c) (nI n) a3 = _
    unfold f_X9_place
    rw [M_cls, if_pos rfl, m_isChild, Option.bind_some, hS2.e79, if_neg h, m_isFar, if_neg h2, m_isPart, if_neg h3, e3, Option.bind_some]
    exact e4
/-! gift -/
def giR (r : Rw) (s : Nat) (v : Int32) : Rw := upd r (3 * s + 1) v
theorem giR_good {r : Rw} (hG : Good r) {s g : Nat} (hs : s < 4) (hg : g ≤ 9) : Good (giR r s (nI g)) := by
  obtain ⟨g1, g2, g3⟩ := hG.2.2.2.2.2.1 s hs
  unfold giR
  exact hG.sea hs (fun j hj => upd_n (by omega)) ⟨by rw [upd_n (by omega)]; exact g1, ⟨g, hg, upd_s⟩, by rw [upd_n (by omega)]; exact g3⟩
theorem giR_rw {d : Dt} {w : Nat} {r : Rw} (hG : Good r) (hR : RW d w r) {s : Nat} (hs : s < 4) {v : Int32} : RW (pI d (w + 6 + s) 1 v) w (giR r s v) := by
  have h5 := hG.1.2
  obtain ⟨q0, q1, q2⟩ := hR.2.1 s hs
  unfold giR
  exact hR.sea h5 hs (fun a ha => pI_ne ha) (fun j hj => upd_n (by omega)) ⟨by rw [pk (by decide), upd_n (by omega)]; exact q0, by rw [ps, upd_s], by rw [pk (by decide), upd_n (by omega)]; exact q2⟩
def giV (r : Rw) (s : Nat) : Int32 := if (9 : Int32) ≤ r (3 * s + 1) then 9 else r (3 * s + 1) + 1
def giF (n : Nat) (r : Rw) (j : Int32 × Int32) (i : Nat) : Int32 × Int32 := jg j (nI i) (sumK 3 (wkN n (giR r i (giV r i))))
theorem giV_n {r : Rw} (hG : Good r) {s : Nat} (hs : s < 4) : ∃ g, g ≤ 9 ∧ giV r s = nI g ∧ giV r s = f_X9_lesser 9 (r (3 * s + 1) + 1) ∧ ((9 : Int32) ≤ r (3 * s + 1) → giV r s = r (3 * s + 1)) := by
  obtain ⟨-, ⟨g, hg, e⟩, -⟩ := hG.2.2.2.2.2.1 s hs
  have key : ∀ g, g ≤ 9 → (if (9 : Int32) ≤ nI g then (9 : Int32) else nI g + 1) = nI (if 9 ≤ g then 9 else g + 1) ∧ (if (9 : Int32) ≤ nI g then (9 : Int32) else nI g + 1) = f_X9_lesser 9 (nI g + 1) ∧ ((9 : Int32) ≤ nI g → (if (9 : Int32) ≤ nI g then (9 : Int32) else nI g + 1) = nI g) := by decide
  obtain ⟨k1, k2, k3⟩ := key g hg
  unfold giV
  rw [e]
  exact ⟨if 9 ≤ g then 9 else g + 1, by split <;> omega, k1, k2, k3⟩
theorem jg_ge {j : Int32 × Int32} {b v1 v2 : Int32} (h : b ≤ j.2) : b ≤ (jg j v1 v2).2 := by
  unfold jg
  split
  · exact h
  · rename_i q
    exact Int32.le_trans h (Int32.le_of_lt (Int32.not_le.mp q))
theorem x_gift_L {d0 : Dt} (hI : Inv d0) {n : Nat} {v3 : Int32} (hn : n < 900) : ∀ (f i : Nat) (d : Dt) (j : Int32 × Int32), i ≤ 4 → 4 - i < f → Jx d0 j d → sumK 3 (wkN n (d0.1 79)) ≤ j.2 → ∃ D, Sc d0 D ∧ f_X8_gift_L30 L0 0 (nI n) v3 f (nI i) d = some (jt (fo (giF n (d0.1 79)) (4 - i) i j) v3, D) := by
  have hG := hI.2.1
  intro f
  induction f with
  | zero => intro i d j h1 h2; omega
  | succ f ih =>
    intro i d j h1 h2 hJ hb
    unfold f_X8_gift_L30
    by_cases hi : i < 4
    · rw [if_neg (fun q => by have := (nI_leI (a := 4) (b := i) (by omega) (by omega)).mp q; omega)]
      obtain ⟨g, hg, v1, v2, v3'⟩ := giV_n hG hi
      have hI' := hI.mv hJ.1
      have e9 : d.1 (3 + 6 + i) 1 = d0.1 79 (3 * i + 1) := by rw [← hJ.1.e79]; exact (hI'.1.2.1 i hi).2.1
      rw [X_world, Option.bind_some, W_se isW3, Option.bind_some, W_ras isW3 hi, Option.bind_some, W_scl isW3 hi, if_pos rfl, e9]
      by_cases h9 : (9 : Int32) ≤ d0.1 79 (3 * i + 1)
      · obtain ⟨D, hD, hq⟩ := ih (i + 1) d j (by omega) (by omega) hJ hb
        refine ⟨D, hD, ?_⟩
        have er : giR (d0.1 79) i (giV (d0.1 79) i) = d0.1 79 := by
          funext k
          unfold giR
          by_cases e : k = 3 * i + 1
          · rw [e, upd_s]; exact v3' h9
          · rw [upd_n e]
        rw [if_pos h9, nI_1, hq, fo_succ hi]
        show _ = some (jt (fo _ _ _ (jg j (nI i) (sumK 3 (wkN n (giR (d0.1 79) i (giV (d0.1 79) i)))))) v3, D)
        rw [er]
        unfold jg
        rw [if_pos hb]
      · have gv : giV (d0.1 79) i = d0.1 79 (3 * i + 1) + 1 := by unfold giV; rw [if_neg h9]
        obtain ⟨e1, g1, hR1, hB1⟩ := x_cpJ hI hJ.1
        have eg : e1.1 (18 + 6 + i) 1 = d0.1 79 (3 * i + 1) := (hR1.2.1 i hi).2.1
        obtain ⟨e2, g2, hR2, hB2⟩ := x_skT (n := n) (giR_good hG hi hg) (giR_rw hG hR1 (v := nI g) hi) hn
        rw [← v1] at g2
        obtain ⟨e3, g3, hJ3⟩ := x_offer hJ ((hB1.tr (Bw.pI (k := 1) (v := nI g) (by omega))).tr hB2) (nI i) (sumK 3 (wkN n (giR (d0.1 79) i (giV (d0.1 79) i))))
        obtain ⟨D, hD, hq⟩ := ih (i + 1) e3 _ (by omega) (by omega) hJ3 (jg_ge hb)
        refine ⟨D, hD, ?_⟩
        rw [if_neg h9, X_trial, Option.bind_some, W_cls isW18, if_pos rfl, g1, Option.bind_some, W_se isW18, Option.bind_some, W_ras isW18 hi, Option.bind_some, W_scl isW18 hi, if_pos rfl, X_best, Option.bind_some, X_cls, if_pos rfl, eg, ← gv, g2, Option.bind_some, B_cls, if_pos rfl, g3, Option.bind_some, nI_1, hq, fo_succ hi]
        rfl
    · have : i = 4 := by omega
      subst this
      rw [if_pos (by decide), X_best, Option.bind_some, B_cls, if_pos rfl, x_told hJ, Option.bind_some]
      exact ⟨d, hJ.1, rfl⟩
theorem m_gift_L {d0 : Dt} (hI : Inv d0) {n : Nat} {v3 : Int32} (hn : n < 900) : ∀ (f i : Nat) (d : Dt) (j : Int32 × Int32), i ≤ 4 → 4 - i < f → Jm d0 j d → ∃ D, Sc d0 D ∧ f_X9_gift_L31 L0 78 (nI n) v3 f (nI i) d = some (jt (fo (giF n (d0.1 79)) (4 - i) i j) v3, D) := by
  have hG := hI.2.1
  intro f
  induction f with
  | zero => intro i d j h1 h2; omega
  | succ f ih =>
    intro i d j h1 h2 hJ
    unfold f_X9_gift_L31
    by_cases hi : i < 4
    · rw [if_neg (fun q => by have := (nI_leI (a := 4) (b := i) (by omega) (by omega)).mp q; omega)]
      obtain ⟨g, hg, v1, v2, -⟩ := giV_n hG hi
      have e79 : (sd d).1 79 = d0.1 79 := by rw [sd_ne (by omega)]; exact hJ.1.e79
      have hE1 : Eq60 ((pI (sd d) 80 (3 * i + 1) (giV (d0.1 79) i)).1 80) (giR (d0.1 79) i (giV (d0.1 79) i)) := by rw [pI_self]; exact (sd_e hJ.1).upd
      obtain ⟨e2, g2, hE2, hB2⟩ := m_skB (n := n) hE1 (by rw [v1]; exact giR_good hG hi hg) hn
      obtain ⟨e3, g3, hJ3⟩ := m_judges hJ ((sd_bn.tr Bn.pi).tr hB2) (nI i) (sumK 3 (wkN n (giR (d0.1 79) i (giV (d0.1 79) i))))
      obtain ⟨D, hD, hq⟩ := ih (i + 1) e3 _ (by omega) (by omega) hJ3
      refine ⟨D, hD, ?_⟩
      rw [M_cls, if_pos rfl, sd_st, Option.bind_some, M_now, Option.bind_some, M_st, Option.bind_some, show ((3 : Int32) * nI i) + (1 : Int32) = nI (3 * i + 1) from ix3 i 1, Mo_st (by omega), if_pos rfl, Mo_now (by omega), if_pos rfl, nI_clamp (by omega), e79, ← v2, g2, Option.bind_some, g3, Option.bind_some, nI_1, hq, fo_succ hi]
      rfl
    · have : i = 4 := by omega
      subst this
      rw [if_pos (by decide), M_cls, if_pos rfl, m_judged hJ, Option.bind_some]
      exact ⟨d, hJ.1, rfl⟩
theorem x_asItIs {d : Dt} (hI : Inv d) {n : Nat} (hn : n < 900) : ∃ d', f_X8_skillsAsItIs L0 d 0 (nI n) = some (sumK 3 (wkN n (d.1 79)), d') ∧ Bw 18 d d' := by
  obtain ⟨d1, e1, hR1, hB1⟩ := x_cp hI
  obtain ⟨d2, e2, hR2, hB2⟩ := x_skT (n := n) hI.2.1 hR1 hn
  refine ⟨d2, ?_, hB1.tr hB2⟩
  unfold f_X8_skillsAsItIs
  rw [X_trial, Option.bind_some, X_world, Option.bind_some, W_cls isW18, if_pos rfl, e1, Option.bind_some, X_cls, if_pos rfl, e2, Option.bind_some]
theorem st_gift {d : Dt} (hI : Inv d) (a1 a2 : Int32) : ∃ (z1 : Int32 × Dt) (z2 : Int32 × Dt), f_X8_gift L0 d 0 a1 a2 = some z1 ∧ f_X9_gift L0 z1.2 78 a1 a2 = some z2 ∧ z1.1 = z2.1 ∧ Inv z2.2 := by
  by_cases h2 : f_X8_isRun a1 = 0
  · exact ⟨(-1, d), (-1, d), by unfold f_X8_gift; rw [if_pos h2], by unfold f_X9_gift; rw [m_isFar, if_pos h2], rfl, hI⟩
  by_cases h3 : f_X8_isWhichOrHowMuch a2 = 0
  · exact ⟨(-1, d), (-1, d), by unfold f_X8_gift; rw [if_neg h2, if_pos h3], by unfold f_X9_gift; rw [m_isFar, if_neg h2, m_isPart, if_pos h3], rfl, hI⟩
  obtain ⟨n, hn, rfl⟩ := run_iff.mp h2
  obtain ⟨d0, e0, hB0⟩ := x_asItIs hI (n := n) (by omega)
  obtain ⟨d1, e1, hJ1⟩ := x_seek (Sc.bw hB0) (sumK 3 (wkN n (d.1 79)))
  obtain ⟨d2, hS2, e2⟩ := x_gift_L hI (v3 := a2) (n := n) (by omega) FU 0 d1 _ (by omega) (by unfold FU; omega) hJ1 (Int32.le_refl _)
  obtain ⟨d3, e3, hE3, hB3⟩ := m_skB (d := sd d2) (n := n) (sd_e hS2) hI.2.1 (by omega)
  obtain ⟨d4, e4, hJ4⟩ := m_seek (hS2.tr (sd_bn.tr hB3).sc) (sumK 3 (wkN n (d.1 79)))
  obtain ⟨d5, hS5, e5⟩ := m_gift_L hI (v3 := a2) (n := n) (by omega) FU 0 d4 _ (by omega) (by unfold FU; omega) hJ4
  refine ⟨(jt (fo (giF n (d.1 79)) 4 0 (-4, sumK 3 (wkN n (d.1 79)))) a2, d2), (jt (fo (giF n (d.1 79)) 4 0 (-4, sumK 3 (wkN n (d.1 79)))) a2, d5), ?_, ?_, rfl, hI.mv hS5⟩
  · unfold f_X8_gift
    rw [if_neg h2, if_neg h3, X_best, Option.bind_some, X_cls, if_pos rfl, e0, Option.bind_some, B_cls, if_pos rfl, e1, Option.bind_some]
    exact e2
  · show f_X9_gift L0 d2 78 (nI n) a2 = _
    unfold f_X9_gift
    rw [m_isFar, if_neg h2, m_isPart, if_neg h3, M_cls, if_pos rfl, sd_st, Option.bind_some, e3, Option.bind_some, e4, Option.bind_some]
    exact e5
/-! swap -/
def swR (r : Rw) (c e : Nat) : Rw := upd (upd r (12 + 5 * c + 1) (r (12 + 5 * e + 1))) (12 + 5 * e + 1) (r (12 + 5 * c + 1))
def swF (n : Nat) (r : Rw) (c : Nat) (j : Int32 × Int32) (e : Nat) : Int32 × Int32 := if r (12 + 5 * c + 1) = -4 then j else if r (12 + 5 * e + 1) = -4 then j else jg j (nI (10 * c + e)) (sumK 3 (wkN n (swR r c e)))
theorem GK.bd {r : Rw} {c : Nat} (h : GK r c) (hb : ¬ r (12 + 5 * c + 1) = -4) : ∃ s, s < 4 ∧ r (12 + 5 * c + 1) = nI s := by
  obtain ⟨-, ⟨t, -, -, t3⟩, -⟩ := h
  rcases t3 with ⟨-, b⟩ | ⟨-, b⟩
  · exact absurd b hb
  · exact b
theorem GK.rebind {r r' : Rw} {c s : Nat} (h : GK r c) (hb : ¬ r (12 + 5 * c + 1) = -4) (hs : s < 4) (h0 : r' (12 + 5 * c) = r (12 + 5 * c)) (h1 : r' (12 + 5 * c + 1) = nI s) (h2 : r' (12 + 5 * c + 2) = r (12 + 5 * c + 2)) (h3 : r' (12 + 5 * c + 3) = r (12 + 5 * c + 3)) (h4 : r' (12 + 5 * c + 4) = r (12 + 5 * c + 4)) : GK r' c := by
  obtain ⟨g1, ⟨t, t1, t2, t3⟩, g3, g4⟩ := h
  unfold GK
  rw [h0, h1, h2, h3, h4]
  refine ⟨g1, ⟨t, t1, t2, Or.inr ⟨?_, s, hs, rfl⟩⟩, g3, g4⟩
  rcases t3 with ⟨-, b⟩ | ⟨a, -⟩
  · exact absurd b hb
  · exact a
theorem swR_all {d : Dt} {w : Nat} {r : Rw} (hG : Good r) (hR : RW d w r) {c e : Nat} (hce : c < e) (he : e < nk r) (hb : ¬ r (12 + 5 * c + 1) = -4) (hb2 : ¬ r (12 + 5 * e + 1) = -4) : Good (swR r c e) ∧ RW (pI (pI d (w + 10 + c) 1 (r (12 + 5 * e + 1))) (w + 10 + e) 1 (r (12 + 5 * c + 1))) w (swR r c e) := by
  have h5 := hG.1.2
  obtain ⟨s, hs, es⟩ := (hG.2.2.2.2.2.2.1 c (by omega)).bd hb
  obtain ⟨t, ht, et⟩ := (hG.2.2.2.2.2.2.1 e he).bd hb2
  have hG1 : Good (upd r (12 + 5 * c + 1) (nI t)) := hG.kid (c := c) (by omega) (fun j hj => upd_n (by omega)) ((hG.2.2.2.2.2.2.1 c (by omega)).rebind hb ht (upd_n (by omega)) upd_s (upd_n (by omega)) (upd_n (by omega)) (upd_n (by omega)))
  have n1 : nk (upd r (12 + 5 * c + 1) (nI t)) = nk r := by unfold nk; rw [upd_n (by omega)]
  have o1 : upd r (12 + 5 * c + 1) (nI t) (12 + 5 * e + 1) = r (12 + 5 * e + 1) := upd_n (by omega)
  have hG2 : Good (upd (upd r (12 + 5 * c + 1) (nI t)) (12 + 5 * e + 1) (nI s)) := hG1.kid (c := e) (by omega) (fun j hj => upd_n (by omega)) ((hG1.2.2.2.2.2.2.1 e (by omega)).rebind (by rw [o1]; exact hb2) hs (upd_n (by omega)) upd_s (upd_n (by omega)) (upd_n (by omega)) (upd_n (by omega)))
  have hR1 : RW (pI d (w + 10 + c) 1 (nI t)) w (upd r (12 + 5 * c + 1) (nI t)) := by
    obtain ⟨q0, q2, q3, q4, q1, qs⟩ := hR.2.2.1 c (by omega)
    exact hR.kid h5 (c := c) (by omega) (fun a ha => pI_ne ha) (fun j hj => upd_n (by omega)) ⟨by rw [pk (by decide), upd_n (by omega)]; exact q0, by rw [pk (by decide), upd_n (by omega)]; exact q2, by rw [pk (by decide), upd_n (by omega)]; exact q3, by rw [pk (by decide), upd_n (by omega)]; exact q4, fun _ => by rw [ps, upd_s], ⟨t, ht, ps⟩⟩
  have hR2 : RW (pI (pI d (w + 10 + c) 1 (nI t)) (w + 10 + e) 1 (nI s)) w (upd (upd r (12 + 5 * c + 1) (nI t)) (12 + 5 * e + 1) (nI s)) := by
    obtain ⟨q0, q2, q3, q4, q1, qs⟩ := hR1.2.2.1 e (by omega)
    exact hR1.kid (by omega) (c := e) (by omega) (fun a ha => pI_ne ha) (fun j hj => upd_n (by omega)) ⟨by rw [pk (by decide), upd_n (by omega)]; exact q0, by rw [pk (by decide), upd_n (by omega)]; exact q2, by rw [pk (by decide), upd_n (by omega)]; exact q3, by rw [pk (by decide), upd_n (by omega)]; exact q4, fun _ => by rw [ps, upd_s], ⟨s, hs, ps⟩⟩
  unfold swR
  rw [et, es]
  exact ⟨hG2, hR2⟩
theorem i10 (c e : Nat) : (10 : Int32) * nI c + nI e = nI (10 * c + e) := by
  rw [show (10 : Int32) = nI 10 from rfl, nI_mul, nI_add]
theorem x_swapped {d0 d : Dt} (hI : Inv d0) (hS : Sc d0 d) {c e n : Nat} (hn : n < 900) (hce : c < e) (he : e < nk (d0.1 79)) (hb : ¬ d0.1 79 (12 + 5 * c + 1) = -4) (hb2 : ¬ d0.1 79 (12 + 5 * e + 1) = -4) : ∃ d', f_X8_skillsIfSwapped L0 d 0 (nI c) (nI e) (nI n) = some (sumK 3 (wkN n (swR (d0.1 79) c e)), d') ∧ Bw 18 d d' := by
  have hG := hI.2.1
  have h5 := hG.1.2
  have hI' := hI.mv hS
  have hR3 : RW d 3 (d0.1 79) := by rw [← hS.e79]; exact hI'.1
  obtain ⟨e1, g1, hR1, hB1⟩ := x_cpJ hI hS
  obtain ⟨hGs, hRs⟩ := swR_all hG hR1 hce he hb hb2
  obtain ⟨e2, g2, hR2, hB2⟩ := x_skT (n := n) hGs hRs hn
  have a1 : e1.1 (3 + 10 + e) 1 = d0.1 79 (12 + 5 * e + 1) := by rw [hB1.1 _ (by omega)]; exact (hR3.2.2.1 e he).bnd (hG.2.2.2.2.2.2.1 e he) hb2
  have a2 : e1.1 (3 + 10 + c) 1 = d0.1 79 (12 + 5 * c + 1) := by rw [hB1.1 _ (by omega)]; exact (hR3.2.2.1 c (by omega)).bnd (hG.2.2.2.2.2.2.1 c (by omega)) hb
  refine ⟨e2, ?_, (hB1.tr ((Bw.pI (by omega)).tr (Bw.pI (by omega)))).tr hB2⟩
  unfold f_X8_skillsIfSwapped
  rw [X_trial, Option.bind_some, X_world, Option.bind_some, W_cls isW18, if_pos rfl, g1, Option.bind_some, W_ch isW18, Option.bind_some, W_rac isW18 (by omega), Option.bind_some, W_ch isW3, Option.bind_some, W_rac isW3 (by omega), Option.bind_some, W_ccl isW3 (by omega), if_pos rfl, W_ccl isW18 (by omega), if_pos rfl, W_rac isW18 (by omega), Option.bind_some, W_rac isW3 (by omega), Option.bind_some, W_ccl isW3 (by omega), if_pos rfl, W_ccl isW18 (by omega), if_pos rfl, X_cls, if_pos rfl, pI_ne (show 3 + 10 + c ≠ 18 + 10 + c by omega), a1, a2, g2, Option.bind_some]
theorem x_swap_I {d0 : Dt} (hI : Inv d0) {n c : Nat} {v2 : Int32} (hn : n < 900) (hc : c < nk (d0.1 79)) {k : Int32 → Dt → Option (Int32 × Dt)} : ∀ (f e : Nat) (d : Dt) (j : Int32 × Int32), c < e → e ≤ nk (d0.1 79) → nk (d0.1 79) - e < f → Jx d0 j d → ∃ D, Jx d0 (fo (swF n (d0.1 79) c) (nk (d0.1 79) - e) e j) D ∧ f_X8_swap_L46 L0 0 (nI n) v2 (nI c) k f (nI e) d = k (nI (nk (d0.1 79))) D := by
  have hG := hI.2.1
  have h5 := hG.1.2
  intro f
  induction f with
  | zero => intro e d j h0 h1 h2; omega
  | succ f ih =>
    intro e d j h0 h1 h2 hJ
    have hI' := hI.mv hJ.1
    have hR3 : RW d 3 (d0.1 79) := by rw [← hJ.1.e79]; exact hI'.1
    unfold f_X8_swap_L46
    rw [X_world, Option.bind_some, W_cls isW3, if_pos rfl]
    by_cases he : e < nk (d0.1 79)
    · rw [if_neg (fun q => by have := (x_le hR3 hG (c := e) (by omega)).mp q; omega), W_ch isW3, Option.bind_some, W_rac isW3 (by omega), Option.bind_some, W_ccl isW3 (by omega), if_pos rfl, x_isFree isW3 hR3 hG hc, Option.bind_some, nI_1]
      by_cases hb : d0.1 79 (12 + 5 * c + 1) = -4
      · rw [if_pos hb, if_neg one_ne]
        obtain ⟨D, hD, hq⟩ := ih (e + 1) d j (by omega) (by omega) (by omega) hJ
        refine ⟨D, ?_, hq⟩
        rw [fo_succ he]
        have : swF n (d0.1 79) c j e = j := by unfold swF; rw [if_pos hb]
        rw [this]
        exact hD
      · rw [if_neg hb, if_pos rfl, W_rac isW3 (by omega), Option.bind_some, W_ccl isW3 (by omega), if_pos rfl, x_isFree isW3 hR3 hG he, Option.bind_some]
        by_cases hb2 : d0.1 79 (12 + 5 * e + 1) = -4
        · rw [if_pos hb2, if_neg one_ne]
          obtain ⟨D, hD, hq⟩ := ih (e + 1) d j (by omega) (by omega) (by omega) hJ
          refine ⟨D, ?_, hq⟩
          rw [fo_succ he]
          have : swF n (d0.1 79) c j e = j := by unfold swF; rw [if_neg hb, if_pos hb2]
          rw [this]
          exact hD
        · obtain ⟨e1, g1, hB1⟩ := x_swapped hI hJ.1 hn h0 he hb hb2
          obtain ⟨e2, g2, hJ2⟩ := x_offer hJ hB1 (nI (10 * c + e)) (sumK 3 (wkN n (swR (d0.1 79) c e)))
          obtain ⟨D, hD, hq⟩ := ih (e + 1) e2 _ (by omega) (by omega) (by omega) hJ2
          refine ⟨D, ?_, ?_⟩
          · rw [fo_succ he]
            have : swF n (d0.1 79) c j e = jg j (nI (10 * c + e)) (sumK 3 (wkN n (swR (d0.1 79) c e))) := by unfold swF; rw [if_neg hb, if_neg hb2]
            rw [this]
            exact hD
          · rw [if_neg hb2, if_pos rfl, X_best, Option.bind_some, X_cls, if_pos rfl, g1, Option.bind_some, B_cls, if_pos rfl, i10, g2, Option.bind_some, hq]
    · have : e = nk (d0.1 79) := by omega
      rw [if_pos ((x_le hR3 hG (c := e) (by omega)).mpr (by omega)), this]
      refine ⟨d, ?_, rfl⟩
      rw [Nat.sub_self]
      exact hJ
theorem m_swap_I {d0 : Dt} (hI : Inv d0) {n c : Nat} {v2 : Int32} (hn : n < 900) (hc : c < nk (d0.1 79)) {k : Int32 → Dt → Option (Int32 × Dt)} : ∀ (f e : Nat) (d : Dt) (j : Int32 × Int32), c < e → e ≤ nk (d0.1 79) → nk (d0.1 79) - e < f → Jm d0 j d → ∃ D, Jm d0 (fo (swF n (d0.1 79) c) (nk (d0.1 79) - e) e j) D ∧ f_X9_swap_L47 L0 78 (nI n) v2 (nI c) k f (nI e) d = k (nI (nk (d0.1 79))) D := by
  have hG := hI.2.1
  have h5 := hG.1.2
  intro f
  induction f with
  | zero => intro e d j h0 h1 h2; omega
  | succ f ih =>
    intro e d j h0 h1 h2 hJ
    have e79 := hJ.1.e79
    unfold f_X9_swap_L47
    rw [M_st, Option.bind_some, mo37, if_pos rfl, t37, e79]
    by_cases he : e < nk (d0.1 79)
    · rw [if_neg (fun q => by have := (m_le hG.1.1 h5 (c := e) (by omega)).mp q; omega), M_cls, if_pos rfl, m_isBound (by omega), Option.bind_some, e79, nI_1]
      by_cases hb : d0.1 79 (12 + 5 * c + 1) = -4
      · rw [if_pos hb, if_pos rfl]
        obtain ⟨D, hD, hq⟩ := ih (e + 1) d j (by omega) (by omega) (by omega) hJ
        refine ⟨D, ?_, hq⟩
        rw [fo_succ he]
        have : swF n (d0.1 79) c j e = j := by unfold swF; rw [if_pos hb]
        rw [this]
        exact hD
      · rw [if_neg hb, if_neg one_ne, m_isBound (by omega), Option.bind_some, e79]
        by_cases hb2 : d0.1 79 (12 + 5 * e + 1) = -4
        · rw [if_pos hb2, if_pos rfl]
          obtain ⟨D, hD, hq⟩ := ih (e + 1) d j (by omega) (by omega) (by omega) hJ
          refine ⟨D, ?_, hq⟩
          rw [fo_succ he]
          have : swF n (d0.1 79) c j e = j := by unfold swF; rw [if_neg hb, if_pos hb2]
          rw [this]
          exact hD
        · have hsd := sd_e hJ.1
          obtain ⟨e1, g1, hE1, hB1⟩ := m_putE hsd (c := c) (by omega) (k := 1) (by omega) (d0.1 79 (12 + 5 * e + 1))
          obtain ⟨e2, g2, hE2, hB2⟩ := m_putE hE1 (c := e) (by omega) (k := 1) (by omega) (d0.1 79 (12 + 5 * c + 1))
          obtain ⟨e3, g3, hE3, hB3⟩ := m_skB (n := n) (r := swR (d0.1 79) c e) hE2 (swR_all (d := d) (w := 3) hG (by rw [← e79]; exact (hI.mv hJ.1).1) h0 he hb hb2).1 hn
          obtain ⟨e4, g4, hJ4⟩ := m_judges hJ (((sd_bn.tr hB1).tr hB2).tr hB3) (nI (10 * c + e)) (sumK 3 (wkN n (swR (d0.1 79) c e)))
          obtain ⟨D, hD, hq⟩ := ih (e + 1) e4 _ (by omega) (by omega) (by omega) hJ4
          refine ⟨D, ?_, ?_⟩
          · rw [fo_succ he]
            have : swF n (d0.1 79) c j e = jg j (nI (10 * c + e)) (sumK 3 (wkN n (swR (d0.1 79) c e))) := by unfold swF; rw [if_neg hb, if_neg hb2]
            rw [this]
            exact hD
          · rw [if_neg hb2, if_neg one_ne, sd_st, Option.bind_some, show f_X9_of L0 (sd d) 78 (nI c) (1 : Int32) = _ from m_ofr (k := 1) hsd (by omega) (by omega), Option.bind_some, show f_X9_of L0 (sd d) 78 (nI e) (1 : Int32) = _ from m_ofr (k := 1) hsd (by omega) (by omega), Option.bind_some, show f_X9_becomesOf L0 (sd d) 78 (nI c) (1 : Int32) _ = _ from g1, Option.bind_some, show f_X9_becomesOf L0 e1 78 (nI e) (1 : Int32) _ = _ from g2, Option.bind_some, g3, Option.bind_some, i10, g4, Option.bind_some, hq]
    · have : e = nk (d0.1 79) := by omega
      rw [if_pos ((m_le hG.1.1 h5 (c := e) (by omega)).mpr (by omega)), this]
      refine ⟨d, ?_, rfl⟩
      rw [Nat.sub_self]
      exact hJ
def swG (n : Nat) (r : Rw) (j : Int32 × Int32) (c : Nat) : Int32 × Int32 := fo (swF n r c) (nk r - (c + 1)) (c + 1) j
theorem x_swap_O {d0 : Dt} (hI : Inv d0) {n : Nat} {v2 : Int32} (hn : n < 900) : ∀ (f c : Nat) (d : Dt) (j : Int32 × Int32), c ≤ nk (d0.1 79) → nk (d0.1 79) - c < f → Jx d0 j d → ∃ D, Sc d0 D ∧ f_X8_swap_L30 L0 0 (nI n) v2 f (nI c) d = some (jt (fo (swG n (d0.1 79)) (nk (d0.1 79) - c) c j) v2, D) := by
  have hG := hI.2.1
  have h5 := hG.1.2
  intro f
  induction f with
  | zero => intro c d j h1 h2; omega
  | succ f ih =>
    intro c d j h1 h2 hJ
    have hI' := hI.mv hJ.1
    have hR3 : RW d 3 (d0.1 79) := by rw [← hJ.1.e79]; exact hI'.1
    unfold f_X8_swap_L30
    rw [X_world, Option.bind_some, W_cls isW3, if_pos rfl]
    by_cases hc : c < nk (d0.1 79)
    · rw [if_neg (fun q => by have := (x_le hR3 hG (c := c) (by omega)).mp q; omega), nI_1]
      obtain ⟨D1, hD1, hq1⟩ := x_swap_I hI (v2 := v2) hn hc (k := fun x31_4 d31 => f_X8_swap_L30 L0 0 (nI n) v2 f (nI (c + 1)) d31) FU (c + 1) d j (by omega) (by omega) (by unfold FU; omega) hJ
      obtain ⟨D, hD, hq⟩ := ih (c + 1) D1 _ (by omega) (by omega) hD1
      refine ⟨D, hD, ?_⟩
      rw [hq1, fo_succ hc]
      exact hq
    · have : c = nk (d0.1 79) := by omega
      rw [if_pos ((x_le hR3 hG (c := c) (by omega)).mpr (by omega)), X_best, Option.bind_some, B_cls, if_pos rfl, x_told hJ, Option.bind_some, this, Nat.sub_self]
      exact ⟨d, hJ.1, rfl⟩
theorem m_swap_O {d0 : Dt} (hI : Inv d0) {n : Nat} {v2 : Int32} (hn : n < 900) : ∀ (f c : Nat) (d : Dt) (j : Int32 × Int32), c ≤ nk (d0.1 79) → nk (d0.1 79) - c < f → Jm d0 j d → ∃ D, Sc d0 D ∧ f_X9_swap_L31 L0 78 (nI n) v2 f (nI c) d = some (jt (fo (swG n (d0.1 79)) (nk (d0.1 79) - c) c j) v2, D) := by
  have hG := hI.2.1
  have h5 := hG.1.2
  intro f
  induction f with
  | zero => intro c d j h1 h2; omega
  | succ f ih =>
    intro c d j h1 h2 hJ
    have e79 := hJ.1.e79
    unfold f_X9_swap_L31
    rw [M_st, Option.bind_some, mo37, if_pos rfl, t37, e79]
    by_cases hc : c < nk (d0.1 79)
    · rw [if_neg (fun q => by have := (m_le hG.1.1 h5 (c := c) (by omega)).mp q; omega), nI_1]
      obtain ⟨D1, hD1, hq1⟩ := m_swap_I hI (v2 := v2) hn hc (k := fun x27_4 d27 => f_X9_swap_L31 L0 78 (nI n) v2 f (nI (c + 1)) d27) FU (c + 1) d j (by omega) (by omega) (by unfold FU; omega) hJ
      obtain ⟨D, hD, hq⟩ := ih (c + 1) D1 _ (by omega) (by omega) hD1
      refine ⟨D, hD, ?_⟩
      rw [hq1, fo_succ hc]
      exact hq
    · have : c = nk (d0.1 79) := by omega
      rw [if_pos ((m_le hG.1.1 h5 (c := c) (by omega)).mpr (by omega)), M_cls, if_pos rfl, m_judged hJ, Option.bind_some, this, Nat.sub_self]
      exact ⟨d, hJ.1, rfl⟩
theorem st_swap {d : Dt} (hI : Inv d) (a1 a2 : Int32) : ∃ (z1 : Int32 × Dt) (z2 : Int32 × Dt), f_X8_swap L0 d 0 a1 a2 = some z1 ∧ f_X9_swap L0 z1.2 78 a1 a2 = some z2 ∧ z1.1 = z2.1 ∧ Inv z2.2 := by
  have h5 := hI.2.1.1.2
  by_cases h2 : f_X8_isRun a1 = 0
  · exact ⟨(-1, d), (-1, d), by unfold f_X8_swap; rw [if_pos h2], by unfold f_X9_swap; rw [m_isFar, if_pos h2], rfl, hI⟩
  by_cases h3 : f_X8_isWhichOrHowMuch a2 = 0
  · exact ⟨(-1, d), (-1, d), by unfold f_X8_swap; rw [if_neg h2, if_pos h3], by unfold f_X9_swap; rw [m_isFar, if_neg h2, m_isPart, if_pos h3], rfl, hI⟩
  obtain ⟨n, hn, rfl⟩ := run_iff.mp h2
  obtain ⟨d0, e0, hB0⟩ := x_asItIs hI (n := n) (by omega)
  obtain ⟨d1, e1, hJ1⟩ := x_seek (Sc.bw hB0) (sumK 3 (wkN n (d.1 79)))
  obtain ⟨d2, hS2, e2⟩ := x_swap_O hI (v2 := a2) (n := n) (by omega) FU 0 d1 _ (by omega) (by unfold FU; omega) hJ1
  obtain ⟨d3, e3, hE3, hB3⟩ := m_skB (d := sd d2) (n := n) (sd_e hS2) hI.2.1 (by omega)
  obtain ⟨d4, e4, hJ4⟩ := m_seek (hS2.tr (sd_bn.tr hB3).sc) (sumK 3 (wkN n (d.1 79)))
  obtain ⟨d5, hS5, e5⟩ := m_swap_O hI (v2 := a2) (n := n) (by omega) FU 0 d4 _ (by omega) (by unfold FU; omega) hJ4
  refine ⟨(jt (fo (swG n (d.1 79)) (nk (d.1 79)) 0 (-4, sumK 3 (wkN n (d.1 79)))) a2, d2), (jt (fo (swG n (d.1 79)) (nk (d.1 79)) 0 (-4, sumK 3 (wkN n (d.1 79)))) a2, d5), ?_, ?_, rfl, hI.mv hS5⟩
  · unfold f_X8_swap
    rw [if_neg h2, if_neg h3, X_best, Option.bind_some, X_cls, if_pos rfl, e0, Option.bind_some, B_cls, if_pos rfl, e1, Option.bind_some]
    exact e2
  · show f_X9_swap L0 d2 78 (nI n) a2 = _
    unfold f_X9_swap
    rw [m_isFar, if_neg h2, m_isPart, if_neg h3, M_cls, if_pos rfl, sd_st, Option.bind_some, e3, Option.bind_some, e4, Option.bind_some]
    exact e5
