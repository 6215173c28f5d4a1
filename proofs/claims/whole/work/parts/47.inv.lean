/-! ===== what holds between two calls ===== -/
def im (d : Dt) (k : Nat) : Rw := fun j => d.1 79 (60 * (k + 1) + j)
def Tp (d : Dt) : Prop := ∃ n, n ≤ 160 ∧ d.1 1 1 = nI n ∧ d.1 78 6 = nI n ∧ ∀ i, i < n → d.1 2 i = d.1 83 i ∧ ∃ b, b ≤ 127 ∧ d.1 83 i = nI b
def Sh (d : Dt) (k : Nat) : Prop := (d.1 (70 + 2 * k) 2 = -4 ∧ d.1 86 k = -4) ∨ ∃ l n, l < 3 ∧ n ≤ 40 ∧ d.1 (70 + 2 * k) 1 = nI l ∧ d.1 86 k = nI l ∧ d.1 (70 + 2 * k) 2 = nI n ∧ d.1 87 k = nI n ∧ ∀ i, i < 40 → d.1 (71 + 2 * k) i = d.1 88 (40 * k + i)
def Im (d : Dt) (k : Nat) : Prop := d.1 35 k = d.1 81 k ∧ (d.1 81 k = 0 ∨ (d.1 81 k = 1 ∧ RW d (40 + 15 * k) (im d k) ∧ Good (im d k)))
def Inv (d : Dt) : Prop := RW d 3 (d.1 79) ∧ Good (d.1 79) ∧ (∀ k, k < 2 → Im d k) ∧ Tp d ∧ d.1 0 9 = d.1 78 11 ∧ d.1 0 10 = d.1 78 23 ∧ ∀ k, k < 4 → Sh d k
/-- the places that no call leaves anything in -/
def scr (a : Nat) : Prop := (18 ≤ a ∧ a ≤ 33) ∨ (37 ≤ a ∧ a ≤ 39) ∨ a = 78 ∨ a = 80 ∨ a = 82 ∨ a = 84 ∨ a = 85 ∨ a = 89
def Sc (d d' : Dt) : Prop := (∀ a, ¬ scr a → d'.1 a = d.1 a) ∧ d'.1 78 6 = d.1 78 6 ∧ d'.1 78 11 = d.1 78 11 ∧ d'.1 78 23 = d.1 78 23
theorem Sc.rf {d : Dt} : Sc d d := ⟨fun _ _ => rfl, rfl, rfl, rfl⟩
theorem Sc.tr {d d' d'' : Dt} (h : Sc d d') (h' : Sc d' d'') : Sc d d'' := ⟨fun a ha => (h'.1 a ha).trans (h.1 a ha), h'.2.1.trans h.2.1, h'.2.2.1.trans h.2.2.1, h'.2.2.2.trans h.2.2.2⟩
theorem Sc.bw {d d' : Dt} (h : Bw 18 d d') : Sc d d' := by
  have h78 : d'.1 78 = d.1 78 := h.1 78 (by omega)
  exact ⟨fun a ha => h.1 a (by unfold scr at ha; omega), by rw [h78], by rw [h78], by rw [h78]⟩
theorem Sc.sr {d : Dt} {q : Nat} {r : Rw} (h : scr q) (h8 : q ≠ 78) : Sc d (sR d q r) := by
  have h78 : (sR d q r).1 78 = d.1 78 := sR_ne (fun e => h8 e.symm)
  exact ⟨fun a ha => sR_ne (fun e => ha (e ▸ h)), by rw [h78], by rw [h78], by rw [h78]⟩
theorem Sc.pi {d : Dt} {q k : Nat} {v : Int32} (h : scr q) (h8 : q = 78 → k ≠ 6 ∧ k ≠ 11 ∧ k ≠ 23) : Sc d (pI d q k v) := by
  refine ⟨fun a ha => pI_ne (fun e => ha (e ▸ h)), ?_, ?_, ?_⟩ <;> rw [pI_at] <;> split <;> first | rfl | (rename_i hh; have := h8 hh.1.symm; omega)
theorem Sc.l {d : Dt} {e : Nat → Nat → Int64} : Sc d (d.1, e) := ⟨fun _ _ => rfl, rfl, rfl, rfl⟩
theorem scr80 : scr 80 := by unfold scr; omega
theorem nscr {a : Nat} (h : a ≤ 17 ∨ (34 ≤ a ∧ a ≤ 36) ∨ (40 ≤ a ∧ a ≤ 77) ∨ a = 79 ∨ a = 81 ∨ a = 83 ∨ (86 ≤ a ∧ a ≤ 88)) : ¬ scr a := by unfold scr; omega
theorem Inv.mv {d d' : Dt} (h : Inv d) (s : Sc d d') : Inv d' := by
  obtain ⟨h1, h2, h3, h4, h5, h6, h7⟩ := h
  have e79 := s.1 79 (nscr (by omega))
  refine ⟨?_, by rw [e79]; exact h2, fun k hk => ?_, ?_, ?_, ?_, fun k hk => ?_⟩
  · rw [e79]
    exact h1.mv (fun a _ _ => s.1 a (nscr (by omega))) h2.1.2
  · obtain ⟨a1, a2⟩ := h3 k hk
    have ei : im d' k = im d k := by unfold im; rw [e79]
    refine ⟨by rw [s.1 35 (nscr (by omega)), s.1 81 (nscr (by omega))]; exact a1, ?_⟩
    rw [s.1 81 (nscr (by omega)), ei]
    rcases a2 with a2 | ⟨a2, a3, a4⟩
    · exact Or.inl a2
    · exact Or.inr ⟨a2, a3.mv (fun a _ _ => s.1 a (nscr (by omega))) a4.1.2, a4⟩
  · obtain ⟨n, hn, e1, e2, e3⟩ := h4
    refine ⟨n, hn, by rw [s.1 1 (nscr (by omega))]; exact e1, by rw [s.2.1]; exact e2, ?_⟩
    rw [s.1 2 (nscr (by omega)), s.1 83 (nscr (by omega))]
    exact e3
  · rw [s.1 0 (nscr (by omega)), s.2.2.1]; exact h5
  · rw [s.1 0 (nscr (by omega)), s.2.2.2]; exact h6
  · have := h7 k hk
    unfold Sh at *
    rw [s.1 (70 + 2 * k) (nscr (by omega)), s.1 (71 + 2 * k) (nscr (by omega)), s.1 86 (nscr (by omega)), s.1 87 (nscr (by omega)), s.1 88 (nscr (by omega))]
    exact this
/-! questions that both sides put alike -/
theorem has_iff {v : Int32} {n : Nat} (hn : n ≤ 1000) : ¬ f_X8_within v 0 (nI n - 1) = 0 ↔ ∃ c, c < n ∧ v = nI c := by
  cases n with
  | zero =>
    constructor
    · intro h
      exfalso
      apply h
      unfold f_X8_within
      by_cases h1 : v < 0
      · rw [if_pos h1]
      · rw [if_neg h1]
        obtain ⟨j, hj, rfl⟩ := nI_of h1
        rw [if_pos]
        rw [Int32.lt_iff_toInt_lt, nI_toInt hj]
        have : (nI 0 - 1).toInt = -1 := by decide
        omega
    · rintro ⟨c, hc, -⟩
      omega
  | succ n =>
    rw [nI_pred]
    have h := wi_iff (v := v) (a := 0) (b := n) (by omega) (by omega)
    refine Iff.trans h ?_
    constructor
    · rintro ⟨c, -, h2, e⟩; exact ⟨c, by omega, e⟩
    · rintro ⟨c, h2, e⟩; exact ⟨c, by omega, by omega, e⟩
theorem x_has {d : Dt} {w : Nat} {r : Rw} (hw : isW w) (hR : RW d w r) (v : Int32) : f_X7_has L0 d w v = some (f_X8_within v 0 (r 37 - 1)) := by
  unfold f_X7_has
  rw [W_cls hw, if_pos rfl, hR.1.1]
theorem m_isChild {d : Dt} (v : Int32) : f_X9_isChild L0 d 78 v = some (f_X8_within v 0 (d.1 79 37 - 1)) := by
  unfold f_X9_isChild
  rw [M_st, Option.bind_some, show okA L0 79 1 (37 : Int32) = true from Mo_st (j := 37) (by omega), if_pos rfl, show ((37 : Int32)).toNatClampNeg = 37 from rfl, show (0 : Int64) = (0 : Int32).toInt64 by decide, in_within]
theorem m_isSeason (v : Int32) : f_X9_isSeason v = f_X8_isSeason v := by
  unfold f_X9_isSeason f_X8_isSeason
  exact in_w0 v 3 (by omega) _ rfl
theorem m_isSkill (v : Int32) : f_X9_isSkill v = f_X8_within v 0 99 := by
  unfold f_X9_isSkill
  exact in_w0 v 99 (by omega) _ rfl
theorem m_isPart (v : Int32) : f_X9_isPart v = f_X8_isWhichOrHowMuch v := by
  unfold f_X9_isPart f_X8_isWhichOrHowMuch
  exact in_w0 v 1 (by omega) _ rfl
theorem m_isFar (v : Int32) : f_X9_isFar v = f_X8_isRun v := by
  unfold f_X9_isFar f_X8_isRun
  exact in_w0 v 60 (by omega) _ rfl
theorem seas_iff {v : Int32} : ¬ f_X8_isSeason v = 0 ↔ ∃ s, s < 4 ∧ v = nI s := by
  unfold f_X8_isSeason
  have h := wi_iff (v := v) (a := 0) (b := 3) (by omega) (by omega)
  refine Iff.trans h ?_
  constructor
  · rintro ⟨c, -, h2, e⟩; exact ⟨c, by omega, e⟩
  · rintro ⟨c, h2, e⟩; exact ⟨c, by omega, by omega, e⟩
theorem run_iff {v : Int32} : ¬ f_X8_isRun v = 0 ↔ ∃ n, n ≤ 60 ∧ v = nI n := by
  unfold f_X8_isRun
  have h := wi_iff (v := v) (a := 0) (b := 60) (by omega) (by omega)
  refine Iff.trans h ?_
  constructor
  · rintro ⟨c, -, h2, e⟩; exact ⟨c, by omega, e⟩
  · rintro ⟨c, h2, e⟩; exact ⟨c, by omega, by omega, e⟩
theorem two_iff {v : Int32} : ¬ f_X8_isWhichOrHowMuch v = 0 ↔ v = 0 ∨ v = 1 := by
  unfold f_X8_isWhichOrHowMuch
  have h := wi_iff (v := v) (a := 0) (b := 1) (by omega) (by omega)
  refine Iff.trans h ?_
  constructor
  · rintro ⟨c, -, h2, e⟩
    rcases (show c = 0 ∨ c = 1 by omega) with rfl | rfl
    · exact Or.inl e
    · exact Or.inr e
  · rintro (e | e)
    · exact ⟨0, by omega, by omega, e⟩
    · exact ⟨1, by omega, by omega, e⟩
theorem wi0_iff {v : Int32} (b : Nat) (hb : b < 2 ^ 31) : ¬ f_X8_within v 0 (nI b) = 0 ↔ ∃ n, n ≤ b ∧ v = nI n := by
  have h := wi_iff (v := v) (a := 0) (b := b) (by omega) hb
  refine Iff.trans h ?_
  constructor
  · rintro ⟨c, -, h2, e⟩; exact ⟨c, h2, e⟩
  · rintro ⟨c, h2, e⟩; exact ⟨c, by omega, h2, e⟩
/-- the reference's row behind starts() -/
def sd (d : Dt) : Dt := sR d 80 (cp60 (d.1 79) (d.1 80))
theorem sd_st {d : Dt} : f_X9_starts L0 d 78 = some (sd d) := m_starts d
theorem sd_80 {d : Dt} : Eq60 ((sd d).1 80) (d.1 79) := by unfold sd; rw [sR_self]; exact cp60_eq
theorem sd_ne {d : Dt} {a : Nat} (h : a ≠ 80) : (sd d).1 a = d.1 a := sR_ne h
theorem sd_2 {d : Dt} : (sd d).2 = d.2 := rfl
theorem sd_sc {d : Dt} : Sc d (sd d) := Sc.sr scr80 (by omega)
theorem sd_good {d : Dt} (h : Good (d.1 79)) : Good ((sd d).1 80) := h.eq sd_80.sy
