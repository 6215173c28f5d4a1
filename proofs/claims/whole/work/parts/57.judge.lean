/-! ===== judging: place, kind, span ===== -/
def jg (j : Int32 × Int32) (v1 v2 : Int32) : Int32 × Int32 := if v2 ≤ j.2 then j else (v1, v2)
def jt (j : Int32 × Int32) (v : Int32) : Int32 := if j.1 = -4 then -4 else if v = 0 then j.1 else j.2
def Jx (d0 : Dt) (j : Int32 × Int32) (d : Dt) : Prop := Sc d0 d ∧ d.1 37 0 = j.1 ∧ d.1 37 1 = j.2
def Jm (d0 : Dt) (j : Int32 × Int32) (d : Dt) : Prop := Sc d0 d ∧ d.1 78 13 = j.1 ∧ d.1 78 14 = j.2
theorem scr37 : scr 37 := by unfold scr; omega
theorem scr78 : scr 78 := by unfold scr; omega
section JG
variable {d0 d d1 : Dt} {j : Int32 × Int32}
theorem x_seek (h : Sc d0 d) (v : Int32) : ∃ D, f_X0_seekAbove L0 d 37 v = some D ∧ Jx d0 (-4, v) D := by
  unfold f_X0_seekAbove
  rw [B_cls, if_pos rfl]
  exact ⟨_, rfl, (h.tr (Sc.pi scr37 (by omega))).tr (Sc.pi scr37 (by omega)), by rw [pk (by decide), ps], ps⟩
theorem m_seek (h : Sc d0 d) (v : Int32) : ∃ D, f_X9_startsJudging L0 d 78 v = some D ∧ Jm d0 (-4, v) D := by
  unfold f_X9_startsJudging
  rw [M_cls, if_pos rfl]
  exact ⟨_, rfl, (h.tr (Sc.pi scr78 (by omega))).tr (Sc.pi scr78 (by omega)), by rw [pk (by decide), ps], ps⟩
theorem x_offer (h : Jx d0 j d) (hB : Bw 18 d d1) (v1 v2 : Int32) : ∃ D, f_X0_offer L0 d1 37 v1 v2 = some D ∧ Jx d0 (jg j v1 v2) D := by
  obtain ⟨hS, h0, h1⟩ := h
  have e37 : d1.1 37 = d.1 37 := hB.1 37 (by omega)
  have hS1 := hS.tr (Sc.bw hB)
  unfold f_X0_offer jg
  rw [B_cls, if_pos rfl, e37, h1]
  by_cases hle : v2 ≤ j.2
  · rw [if_pos hle, if_pos hle]
    exact ⟨_, rfl, hS1, by rw [e37]; exact h0, by rw [e37]; exact h1⟩
  · rw [if_neg hle, if_neg hle]
    exact ⟨_, rfl, (hS1.tr (Sc.pi scr37 (by omega))).tr (Sc.pi scr37 (by omega)), by rw [pk (by decide), ps], ps⟩
theorem m_judges (h : Jm d0 j d) (hB : Bn d d1) (v1 v2 : Int32) : ∃ D, f_X9_judges L0 d1 78 v1 v2 = some D ∧ Jm d0 (jg j v1 v2) D := by
  obtain ⟨hS, h0, h1⟩ := h
  have e78 : d1.1 78 = d.1 78 := hB.1 78 (by omega)
  have hS1 := hS.tr hB.sc
  unfold f_X9_judges jg
  rw [M_cls, if_pos rfl, e78, h1]
  by_cases hle : v2 ≤ j.2
  · rw [if_pos hle, if_pos hle]
    rw [pk (by decide), e78, h1, if_pos hle]
    exact ⟨_, rfl, (hS1.tr (Sc.pi scr78 (by omega))).tr (Sc.pi scr78 (by omega)), by rw [pk (by decide), ps]; exact h0, ps⟩
  · rw [if_neg hle, if_neg hle]
    rw [pk (by decide), e78, h1, if_neg hle]
    exact ⟨_, rfl, (hS1.tr (Sc.pi scr78 (by omega))).tr (Sc.pi scr78 (by omega)), by rw [pk (by decide), ps], ps⟩
theorem x_told (h : Jx d0 j d) (v : Int32) : f_X0_told L0 d 37 v = some (jt j v) := by
  obtain ⟨-, h0, h1⟩ := h
  unfold f_X0_told jt
  rw [B_cls, if_pos rfl, h0, h1]
  split
  · rename_i e; rw [e]
  · split <;> rfl
theorem m_judged (h : Jm d0 j d) (v : Int32) : f_X9_judged L0 d 78 v = some (jt j v) := by
  obtain ⟨-, h0, h1⟩ := h
  unfold f_X9_judged jt
  rw [M_cls, if_pos rfl, h0, h1]
  split
  · rfl
  · split <;> rfl
theorem Sc.e79 (h : Sc d0 d) : d.1 79 = d0.1 79 := h.1 79 (nscr (by omega))
theorem x_cpJ (hI : Inv d0) (h : Sc d0 d) : ∃ d', f_X7_copy L0 d 18 3 = some d' ∧ RW d' 18 (d0.1 79) ∧ Bw 18 d d' := by
  have := x_cp (hI.mv h)
  rw [h.e79] at this
  exact this
theorem x_skT {r : Rw} (hG : Good r) (hR : RW d 18 r) {n : Nat} (hn : n < 900) : ∃ d', f_X8_skillsOfTrial L0 d 0 (nI n) = some (sumK 3 (wkN n r), d') ∧ RW d' 18 (wkN n r) ∧ Bw 18 d d' := by
  obtain ⟨d', e1, hR1, hB1⟩ := x_pass isW18 hn hG hR
  refine ⟨d', ?_, hR1, hB1⟩
  unfold f_X8_skillsOfTrial
  rw [X_trial, Option.bind_some, W_cls isW18, if_pos rfl, e1, Option.bind_some, x_skillSum isW18 hR1 (hG.wkN n), Option.bind_some]
theorem sd_e (h : Sc d0 d) : Eq60 ((sd d).1 80) (d0.1 79) := by rw [← h.e79]; exact sd_80
end JG
theorem Eq60.upd {r r' : Rw} (h : Eq60 r r') {k : Nat} {v : Int32} : Eq60 (upd r k v) (upd r' k v) := fun j hj => by
  by_cases e : j = k
  · subst e; rw [upd_s, upd_s]
  · rw [upd_n e, upd_n e]; exact h j hj
theorem m_putE {d : Dt} {r : Rw} (he : Eq60 (d.1 80) r) {c k : Nat} (hc : c < 5) (hk : k < 5) (v : Int32) : ∃ d', f_X9_becomesOf L0 d 78 (nI c) (nI k) v = some d' ∧ Eq60 (d'.1 80) (upd r (12 + 5 * c + k) v) ∧ Bn d d' :=
  ⟨_, m_put hc hk v, by rw [pI_self]; exact he.upd, Bn.pi⟩
/-! kind -/
def kiR (r : Rw) (c i : Nat) : Rw := upd r (12 + 5 * c) (nI i)
theorem kiR_good {r : Rw} (hG : Good r) {c i : Nat} (hc : c < nk r) (hi : i < 4) : Good (kiR r c i) := by
  have h5 := hG.1.2
  obtain ⟨g1, g2, g3, g4⟩ := hG.2.2.2.2.2.2.1 c hc
  unfold kiR
  refine hG.kid hc (fun j hj => upd_n (by omega)) ⟨⟨i, hi, upd_s⟩, ?_, ?_, ?_⟩
  · rw [upd_n (by omega), upd_n (by omega)]; exact g2
  · rw [upd_n (by omega)]; exact g3
  · rw [upd_n (by omega)]; exact g4
theorem kiR_rw {d : Dt} {w : Nat} {r : Rw} (hG : Good r) (hR : RW d w r) {c i : Nat} (hc : c < nk r) : RW (pI d (w + 10 + c) 0 (nI i)) w (kiR r c i) := by
  have h5 := hG.1.2
  obtain ⟨q0, q2, q3, q4, q1, qs⟩ := hR.2.2.1 c hc
  unfold kiR
  refine hR.kid h5 hc (fun a ha => pI_ne ha) (fun j hj => upd_n (by omega)) ⟨by rw [ps, upd_s], by rw [pk (by decide), upd_n (by omega)]; exact q2, by rw [pk (by decide), upd_n (by omega)]; exact q3, by rw [pk (by decide), upd_n (by omega)]; exact q4, fun z => ?_, by rw [pk (by decide)]; exact qs⟩
  rw [upd_n (by omega)] at z
  rw [pk (by decide), upd_n (by omega)]
  exact q1 z
def kiF (c n : Nat) (r : Rw) (j : Int32 × Int32) (i : Nat) : Int32 × Int32 := jg j (nI i) (sumK 3 (wkN n (kiR r c i)))
theorem x_kind_L {d0 : Dt} (hI : Inv d0) {c n : Nat} {v3 : Int32} (hc : c < nk (d0.1 79)) (hn : n < 900) : ∀ (f i : Nat) (d : Dt) (j : Int32 × Int32), i ≤ 4 → 4 - i < f → Jx d0 j d → ∃ D, Sc d0 D ∧ f_X8_kind_L38 L0 0 (nI c) (nI n) v3 f (nI i) d = some (jt (fo (kiF c n (d0.1 79)) (4 - i) i j) v3, D) := by
  have hG := hI.2.1
  have h5 := hG.1.2
  have hc5 : c < 5 := by omega
  intro f
  induction f with
  | zero => intro i d j h1 h2; omega
  | succ f ih =>
    intro i d j h1 h2 hJ
    unfold f_X8_kind_L38
    by_cases hi : i < 4
    · rw [if_neg (fun q => by have := (nI_leI (a := 4) (b := i) (by omega) (by omega)).mp q; omega)]
      obtain ⟨e1, g1, hR1, hB1⟩ := x_cpJ hI hJ.1
      obtain ⟨e2, g2, hR2, hB2⟩ := x_skT (n := n) (kiR_good hG hc hi) (kiR_rw hG hR1 (i := i) hc) hn
      obtain ⟨e3, g3, hJ3⟩ := x_offer hJ ((hB1.tr (Bw.pI (k := 0) (v := nI i) (by omega))).tr hB2) (nI i) (sumK 3 (wkN n (kiR (d0.1 79) c i)))
      obtain ⟨D, hD, hq⟩ := ih (i + 1) e3 _ (by omega) (by omega) hJ3
      refine ⟨D, hD, ?_⟩
      rw [X_trial, Option.bind_some, X_world, Option.bind_some, W_cls isW18, if_pos rfl, g1, Option.bind_some, W_ch isW18, Option.bind_some, W_rac isW18 hc5, Option.bind_some, W_ccl isW18 hc5, if_pos rfl, X_best, Option.bind_some, X_cls, if_pos rfl, g2, Option.bind_some, B_cls, if_pos rfl, g3, Option.bind_some, nI_1, hq, fo_succ hi]
      rfl
    · have : i = 4 := by omega
      subst this
      rw [if_pos (by decide), X_best, Option.bind_some, B_cls, if_pos rfl, x_told hJ, Option.bind_some]
      exact ⟨d, hJ.1, rfl⟩
theorem m_kind_L {d0 : Dt} (hI : Inv d0) {c n : Nat} {v3 : Int32} (hc : c < nk (d0.1 79)) (hn : n < 900) : ∀ (f i : Nat) (d : Dt) (j : Int32 × Int32), i ≤ 4 → 4 - i < f → Jm d0 j d → ∃ D, Sc d0 D ∧ f_X9_kind_L32 L0 78 (nI c) (nI n) v3 f (nI i) d = some (jt (fo (kiF c n (d0.1 79)) (4 - i) i j) v3, D) := by
  have hG := hI.2.1
  have h5 := hG.1.2
  have hc5 : c < 5 := by omega
  intro f
  induction f with
  | zero => intro i d j h1 h2; omega
  | succ f ih =>
    intro i d j h1 h2 hJ
    unfold f_X9_kind_L32
    by_cases hi : i < 4
    · rw [if_neg (fun q => by have := (nI_leI (a := 4) (b := i) (by omega) (by omega)).mp q; omega)]
      obtain ⟨e1, g1, hE1, hB1⟩ := m_putE (d := sd d) (sd_e hJ.1) hc5 (k := 0) (by omega) (nI i)
      obtain ⟨e2, g2, hE2, hB2⟩ := m_skB (n := n) (r := kiR (d0.1 79) c i) hE1 (kiR_good hG hc hi) hn
      obtain ⟨e3, g3, hJ3⟩ := m_judges hJ ((sd_bn.tr hB1).tr hB2) (nI i) (sumK 3 (wkN n (kiR (d0.1 79) c i)))
      obtain ⟨D, hD, hq⟩ := ih (i + 1) e3 _ (by omega) (by omega) hJ3
      refine ⟨D, hD, ?_⟩
      rw [M_cls, if_pos rfl, sd_st, Option.bind_some, show f_X9_becomesOf L0 (sd d) 78 (nI c) (0 : Int32) (nI i) = _ from g1, Option.bind_some, g2, Option.bind_some, g3, Option.bind_some, nI_1, hq, fo_succ hi]
      rfl
    · have : i = 4 := by omega
      subst this
      rw [if_pos (by decide), M_cls, if_pos rfl, m_judged hJ, Option.bind_some]
      exact ⟨d, hJ.1, rfl⟩
theorem st_kind {d : Dt} (hI : Inv d) (a1 a2 a3 : Int32) : ∃ (z1 : Int32 × Dt) (z2 : Int32 × Dt), f_X8_kind L0 d 0 a1 a2 a3 = some z1 ∧ f_X9_kind L0 z1.2 78 a1 a2 a3 = some z2 ∧ z1.1 = z2.1 ∧ Inv z2.2 := by
  obtain ⟨hR, hG, -⟩ := id hI
  have h5 := hG.1.2
  by_cases h : f_X8_within a1 0 (d.1 79 37 - 1) = 0
  · exact ⟨(-1, d), (-1, d), by unfold f_X8_kind; rw [X_world, Option.bind_some, W_cls isW3, if_pos rfl, x_has isW3 hR, Option.bind_some, if_pos h], by unfold f_X9_kind; rw [M_cls, if_pos rfl, m_isChild, Option.bind_some, if_pos h], rfl, hI⟩
  by_cases h2 : f_X8_isRun a2 = 0
  · exact ⟨(-1, d), (-1, d), by unfold f_X8_kind; rw [X_world, Option.bind_some, W_cls isW3, if_pos rfl, x_has isW3 hR, Option.bind_some, if_neg h, if_pos h2], by unfold f_X9_kind; rw [M_cls, if_pos rfl, m_isChild, Option.bind_some, if_neg h, m_isFar, if_pos h2], rfl, hI⟩
  by_cases h3 : f_X8_isWhichOrHowMuch a3 = 0
  · exact ⟨(-1, d), (-1, d), by unfold f_X8_kind; rw [X_world, Option.bind_some, W_cls isW3, if_pos rfl, x_has isW3 hR, Option.bind_some, if_neg h, if_neg h2, if_pos h3], by unfold f_X9_kind; rw [M_cls, if_pos rfl, m_isChild, Option.bind_some, if_neg h, m_isFar, if_neg h2, m_isPart, if_pos h3], rfl, hI⟩
  have h' := h
  rw [hG.1.1] at h'
  obtain ⟨c, hc, rfl⟩ := (has_iff (by omega)).mp h'
  obtain ⟨n, hn, rfl⟩ := run_iff.mp h2
  obtain ⟨d1, e1, hJ1⟩ := x_seek (d := d) Sc.rf (-1)
  obtain ⟨d2, hS2, e2⟩ := x_kind_L hI (v3 := a3) hc (n := n) (by omega) FU 0 d1 _ (by omega) (by unfold FU; omega) hJ1
  obtain ⟨d3, e3, hJ3⟩ := m_seek (d := d2) hS2 (-1)
  obtain ⟨d4, hS4, e4⟩ := m_kind_L hI (v3 := a3) hc (n := n) (by omega) FU 0 d3 _ (by omega) (by unfold FU; omega) hJ3
  refine ⟨(jt (fo (kiF c n (d.1 79)) 4 0 (-4, -1)) a3, d2), (jt (fo (kiF c n (d.1 79)) 4 0 (-4, -1)) a3, d4), ?_, ?_, rfl, hI.mv hS4⟩
  · unfold f_X8_kind
    rw [X_world, Option.bind_some, W_cls isW3, if_pos rfl, x_has isW3 hR, Option.bind_some, if_neg h, if_neg h2, if_neg h3, X_best, Option.bind_some, B_cls, if_pos rfl, e1, Option.bind_some]
    exact e2
  · show f_X9_kind L0 d2 78 (nI c) (nI n) a3 = _
    unfold f_X9_kind
    rw [M_cls, if_pos rfl, m_isChild, Option.bind_some, hS2.e79, if_neg h, m_isFar, if_neg h2, m_isPart, if_neg h3, e3, Option.bind_some]
    exact e4
/-! span -/
def spR (r : Rw) (s i : Nat) : Rw := upd r (3 * s) (nI i)
theorem spR_good {r : Rw} (hG : Good r) {s i : Nat} (hs : s < 4) (hi : 1 ≤ i) (hi9 : i ≤ 9) : Good (spR r s i) := by
  obtain ⟨g1, g2, g3⟩ := hG.2.2.2.2.2.1 s hs
  unfold spR
  exact hG.sea hs (fun j hj => upd_n (by omega)) ⟨⟨i, hi, hi9, upd_s⟩, by rw [upd_n (by omega)]; exact g2, by rw [upd_n (by omega)]; exact g3⟩
theorem spR_rw {d : Dt} {w : Nat} {r : Rw} (hG : Good r) (hR : RW d w r) {s i : Nat} (hs : s < 4) : RW (pI d (w + 6 + s) 0 (nI i)) w (spR r s i) := by
  have h5 := hG.1.2
  obtain ⟨q0, q1, q2⟩ := hR.2.1 s hs
  unfold spR
  exact hR.sea h5 hs (fun a ha => pI_ne ha) (fun j hj => upd_n (by omega)) ⟨by rw [ps, upd_s], by rw [pk (by decide), upd_n (by omega)]; exact q1, by rw [pk (by decide), upd_n (by omega)]; exact q2⟩
def spF (s n : Nat) (r : Rw) (j : Int32 × Int32) (i : Nat) : Int32 × Int32 := jg j (nI i) (sumK 3 (wkN n (spR r s i)))
theorem x_span_L {d0 : Dt} (hI : Inv d0) {s n : Nat} {v3 : Int32} (hs : s < 4) (hn : n < 900) : ∀ (f i : Nat) (d : Dt) (j : Int32 × Int32), 1 ≤ i → i ≤ 10 → 10 - i < f → Jx d0 j d → ∃ D, Sc d0 D ∧ f_X8_span_L34 L0 0 (nI s) (nI n) v3 f (nI i) d = some (jt (fo (spF s n (d0.1 79)) (10 - i) i j) v3, D) := by
  have hG := hI.2.1
  intro f
  induction f with
  | zero => intro i d j h0 h1 h2; omega
  | succ f ih =>
    intro i d j h0 h1 h2 hJ
    unfold f_X8_span_L34
    by_cases hi : i < 10
    · rw [if_neg (fun q => by have := (nI_ltI (a := 9) (b := i) (by omega) (by omega)).mp q; omega)]
      obtain ⟨e1, g1, hR1, hB1⟩ := x_cpJ hI hJ.1
      obtain ⟨e2, g2, hR2, hB2⟩ := x_skT (n := n) (spR_good hG hs h0 (by omega)) (spR_rw hG hR1 (i := i) hs) hn
      obtain ⟨e3, g3, hJ3⟩ := x_offer hJ ((hB1.tr (Bw.pI (k := 0) (v := nI i) (by omega))).tr hB2) (nI i) (sumK 3 (wkN n (spR (d0.1 79) s i)))
      obtain ⟨D, hD, hq⟩ := ih (i + 1) e3 _ (by omega) (by omega) (by omega) hJ3
      refine ⟨D, hD, ?_⟩
      rw [X_trial, Option.bind_some, X_world, Option.bind_some, W_cls isW18, if_pos rfl, g1, Option.bind_some, W_se isW18, Option.bind_some, W_ras isW18 hs, Option.bind_some, W_scl isW18 hs, if_pos rfl, X_best, Option.bind_some, X_cls, if_pos rfl, g2, Option.bind_some, B_cls, if_pos rfl, g3, Option.bind_some, nI_1, hq, fo_succ hi]
      rfl
    · have : i = 10 := by omega
      subst this
      rw [if_pos (by decide), X_best, Option.bind_some, B_cls, if_pos rfl, x_told hJ, Option.bind_some]
      exact ⟨d, hJ.1, rfl⟩
theorem m_span_L {d0 : Dt} (hI : Inv d0) {s n : Nat} {v3 : Int32} (hs : s < 4) (hn : n < 900) : ∀ (f i : Nat) (d : Dt) (j : Int32 × Int32), 1 ≤ i → i ≤ 10 → 10 - i < f → Jm d0 j d → ∃ D, Sc d0 D ∧ f_X9_span_L31 L0 78 (nI s) (nI n) v3 f (nI i) d = some (jt (fo (spF s n (d0.1 79)) (10 - i) i j) v3, D) := by
  have hG := hI.2.1
  intro f
  induction f with
  | zero => intro i d j h0 h1 h2; omega
  | succ f ih =>
    intro i d j h0 h1 h2 hJ
    unfold f_X9_span_L31
    by_cases hi : i < 10
    · rw [if_neg (fun q => by have := (nI_ltI (a := 9) (b := i) (by omega) (by omega)).mp q; omega)]
      have hE1 : Eq60 ((pI (sd d) 80 (3 * s) (nI i)).1 80) (spR (d0.1 79) s i) := by rw [pI_self]; exact (sd_e hJ.1).upd
      obtain ⟨e2, g2, hE2, hB2⟩ := m_skB (n := n) (r := spR (d0.1 79) s i) hE1 (spR_good hG hs h0 (by omega)) hn
      obtain ⟨e3, g3, hJ3⟩ := m_judges hJ ((sd_bn.tr Bn.pi).tr hB2) (nI i) (sumK 3 (wkN n (spR (d0.1 79) s i)))
      obtain ⟨D, hD, hq⟩ := ih (i + 1) e3 _ (by omega) (by omega) (by omega) hJ3
      refine ⟨D, hD, ?_⟩
      rw [M_cls, if_pos rfl, sd_st, Option.bind_some, M_now, Option.bind_some, show ((3 : Int32) * nI s) + (0 : Int32) = nI (3 * s) from ix3 s 0, Mo_now (by omega), if_pos rfl, nI_clamp (by omega), g2, Option.bind_some, g3, Option.bind_some, nI_1, hq, fo_succ hi]
      rfl
    · have : i = 10 := by omega
      subst this
      rw [if_pos (by decide), M_cls, if_pos rfl, m_judged hJ, Option.bind_some]
      exact ⟨d, hJ.1, rfl⟩
theorem st_span {d : Dt} (hI : Inv d) (a1 a2 a3 : Int32) : ∃ (z1 : Int32 × Dt) (z2 : Int32 × Dt), f_X8_span L0 d 0 a1 a2 a3 = some z1 ∧ f_X9_span L0 z1.2 78 a1 a2 a3 = some z2 ∧ z1.1 = z2.1 ∧ Inv z2.2 := by
  by_cases h : f_X8_isSeason a1 = 0
  · exact ⟨(-1, d), (-1, d), by unfold f_X8_span; rw [if_pos h], by unfold f_X9_span; rw [m_isSeason, if_pos h], rfl, hI⟩
  by_cases h2 : f_X8_isRun a2 = 0
  · exact ⟨(-1, d), (-1, d), by unfold f_X8_span; rw [if_neg h, if_pos h2], by unfold f_X9_span; rw [m_isSeason, if_neg h, m_isFar, if_pos h2], rfl, hI⟩
  by_cases h3 : f_X8_isWhichOrHowMuch a3 = 0
  · exact ⟨(-1, d), (-1, d), by unfold f_X8_span; rw [if_neg h, if_neg h2, if_pos h3], by unfold f_X9_span; rw [m_isSeason, if_neg h, m_isFar, if_neg h2, m_isPart, if_pos h3], rfl, hI⟩
  obtain ⟨s, hs, rfl⟩ := seas_iff.mp h
  obtain ⟨n, hn, rfl⟩ := run_iff.mp h2
  obtain ⟨d1, e1, hJ1⟩ := x_seek (d := d) Sc.rf (-1)
  obtain ⟨d2, hS2, e2⟩ := x_span_L hI (v3 := a3) hs (n := n) (by omega) FU 1 d1 _ (by omega) (by omega) (by unfold FU; omega) hJ1
  obtain ⟨d3, e3, hJ3⟩ := m_seek (d := d2) hS2 (-1)
  obtain ⟨d4, hS4, e4⟩ := m_span_L hI (v3 := a3) hs (n := n) (by omega) FU 1 d3 _ (by omega) (by omega) (by unfold FU; omega) hJ3
  refine ⟨(jt (fo (spF s n (d.1 79)) 9 1 (-4, -1)) a3, d2), (jt (fo (spF s n (d.1 79)) 9 1 (-4, -1)) a3, d4), ?_, ?_, rfl, hI.mv hS4⟩
  · unfold f_X8_span
    rw [if_neg h, if_neg h2, if_neg h3, X_best, Option.bind_some, B_cls, if_pos rfl, e1, Option.bind_some]
    exact e2
  · show f_X9_span L0 d2 78 (nI s) (nI n) a3 = _
    unfold f_X9_span
    rw [m_isSeason, if_neg h, m_isFar, if_neg h2, m_isPart, if_neg h3, M_cls, if_pos rfl, e3, Option.bind_some]
    exact e4
