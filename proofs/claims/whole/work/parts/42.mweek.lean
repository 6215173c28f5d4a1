/-! ===== a week of a row; the reference's week ===== -/
def mlearn (k g : Int32) : Int32 := if k = 1 then 2 * g else if k = 2 then (g + 1) / 2 else if k = 3 then (g + 1) / 2 + 1 else g
def bdR (r : Rw) (c : Nat) : Int32 := r (12 + 5 * c + 1)
def thenR (r : Rw) (c : Nat) : Int32 := f_X9_lesser (r (3 * (bdR r c).toNatClampNeg + 2)) (r (12 + 5 * c + 3) + mlearn (r (12 + 5 * c)) (r (3 * (bdR r c).toNatClampNeg + 1)))
abbrev act (r : Rw) (c : Nat) : Prop := ¬ bdR r c = -4 ∧ bdR r c = r 38
def kAge (r : Rw) (c : Nat) : Int32 := if liv r c then f_X9_lesser 999 (r (12 + 5 * c + 4) + 1) else r (12 + 5 * c + 4)
def kSkill (off : Int32) (r : Rw) (c : Nat) : Int32 := if act r c ∧ off = 0 then (if thenR r c ≤ r (12 + 5 * c + 3) then r (12 + 5 * c + 3) else thenR r c) else r (12 + 5 * c + 3)
def kTerm (r : Rw) (c : Nat) : Int32 := if act r c then r (12 + 5 * c + 2) - 1 else r (12 + 5 * c + 2)
def kBnd (r : Rw) (c : Nat) : Int32 := if act r c ∧ r (12 + 5 * c + 2) - 1 = 0 then -4 else bdR r c
def kid (off : Int32) (r : Rw) (c k : Nat) : Int32 := if k = 1 then kBnd r c else if k = 2 then kTerm r c else if k = 3 then kSkill off r c else if k = 4 then kAge r c else r (12 + 5 * c)
def setK (r : Rw) (c : Nat) (f : Nat → Int32) : Rw := fun j => if 12 + 5 * c ≤ j ∧ j < 12 + 5 * c + 5 then f (j - (12 + 5 * c)) else r j
theorem setK_ext {R r : Rw} {c : Nat} {f : Nat → Int32} (h0 : R (12 + 5 * c) = f 0) (h1 : R (12 + 5 * c + 1) = f 1) (h2 : R (12 + 5 * c + 2) = f 2) (h3 : R (12 + 5 * c + 3) = f 3) (h4 : R (12 + 5 * c + 4) = f 4) (hn : ∀ j, ¬ (12 + 5 * c ≤ j ∧ j < 12 + 5 * c + 5) → R j = r j) : R = setK r c f := by
  funext j
  unfold setK
  by_cases h : 12 + 5 * c ≤ j ∧ j < 12 + 5 * c + 5
  · rw [if_pos h]
    rcases (show j = 12 + 5 * c ∨ j = 12 + 5 * c + 1 ∨ j = 12 + 5 * c + 2 ∨ j = 12 + 5 * c + 3 ∨ j = 12 + 5 * c + 4 by omega) with e | e | e | e | e <;> rw [e]
    · rw [Nat.sub_self]; exact h0
    · rw [show 12 + 5 * c + 1 - (12 + 5 * c) = 1 by omega]; exact h1
    · rw [show 12 + 5 * c + 2 - (12 + 5 * c) = 2 by omega]; exact h2
    · rw [show 12 + 5 * c + 3 - (12 + 5 * c) = 3 by omega]; exact h3
    · rw [show 12 + 5 * c + 4 - (12 + 5 * c) = 4 by omega]; exact h4
  · rw [if_neg h]
    exact hn j h
theorem setK_at {r : Rw} {c k : Nat} {f : Nat → Int32} (hk : k < 5) : setK r c f (12 + 5 * c + k) = f k := by
  unfold setK
  rw [if_pos (by omega)]
  congr 1
  omega
theorem setK_at0 {r : Rw} {c : Nat} {f : Nat → Int32} : setK r c f (12 + 5 * c) = f 0 := setK_at (k := 0) (by omega)
theorem setK_ne {r : Rw} {c j : Nat} {f : Nat → Int32} (h : ¬ (12 + 5 * c ≤ j ∧ j < 12 + 5 * c + 5)) : setK r c f j = r j := by
  unfold setK
  rw [if_neg h]
theorem kid0 {off : Int32} {r : Rw} {c : Nat} : kid off r c 0 = r (12 + 5 * c) := rfl
theorem kid1 {off : Int32} {r : Rw} {c : Nat} : kid off r c 1 = kBnd r c := rfl
theorem kid2 {off : Int32} {r : Rw} {c : Nat} : kid off r c 2 = kTerm r c := rfl
theorem kid3 {off : Int32} {r : Rw} {c : Nat} : kid off r c 3 = kSkill off r c := rfl
theorem kid4 {off : Int32} {r : Rw} {c : Nat} : kid off r c 4 = kAge r c := rfl
section MW
variable {d : Dt}
theorem p80 {i j : Nat} {v : Int32} : (pI d 80 i v).1 80 j = if j = i then v else d.1 80 j := by
  rw [pI_at]
  simp
theorem p80n {i j : Nat} {v : Int32} (h : j ≠ i) : (pI d 80 i v).1 80 j = d.1 80 j := by rw [p80, if_neg h]
theorem p80s {i : Nat} {v : Int32} : (pI d 80 i v).1 80 i = v := by rw [p80, if_pos rfl]
theorem ix3 (s k : Nat) : ((3 : Int32) * nI s) + nI k = nI (3 * s + k) := by
  show nI 3 * nI s + nI k = _
  rw [nI_mul, nI_add]
theorem m_learns {c s : Nat} (hc : c < 5) (hs : s < 4) (hb : d.1 80 (12 + 5 * c + 1) = nI s) : f_X9_learns L0 d 78 (nI c) = some (mlearn (d.1 80 (12 + 5 * c)) (d.1 80 (3 * s + 1))) := by
  unfold f_X9_learns
  rw [M_now, Option.bind_some, M_cls, if_pos rfl, show f_X9_of L0 d 78 (nI c) (1 : Int32) = _ from m_of (k := 1) hc (by omega), Option.bind_some, hb, show ((3 : Int32) * nI s) + (1 : Int32) = nI (3 * s + 1) from ix3 s 1, Mo_now (by omega), if_pos rfl, show f_X9_of L0 d 78 (nI c) (0 : Int32) = _ from m_of (k := 0) hc (by omega), Option.bind_some, nI_clamp (by omega)]
  unfold mlearn
  simp only [Nat.add_zero]
  split
  · rfl
  · split
    · rfl
    · split <;> rfl
theorem m_goes_J {c : Nat} (hc : c < 5) : f_X9_childGoes_J86 L0 d 78 (nI c) = some (if d.1 80 (12 + 5 * c + 2) - 1 = 0 then pI (pI d 80 (12 + 5 * c + 2) (d.1 80 (12 + 5 * c + 2) - 1)) 80 (12 + 5 * c + 1) (-4) else pI d 80 (12 + 5 * c + 2) (d.1 80 (12 + 5 * c + 2) - 1)) := by
  unfold f_X9_childGoes_J86
  rw [M_cls, if_pos rfl, show f_X9_of L0 d 78 (nI c) (2 : Int32) = _ from m_of (k := 2) hc (by omega), Option.bind_some, show f_X9_becomesOf L0 d 78 (nI c) (2 : Int32) _ = _ from m_put (k := 2) hc (by omega) _, Option.bind_some, show f_X9_of L0 (pI d 80 (12 + 5 * c + 2) (d.1 80 (12 + 5 * c + 2) - 1)) 78 (nI c) (2 : Int32) = _ from m_of (k := 2) hc (by omega), Option.bind_some, p80s]
  by_cases h : d.1 80 (12 + 5 * c + 2) - 1 = 0
  · rw [if_pos h, if_pos h, show f_X9_becomesOf L0 _ 78 (nI c) (1 : Int32) _ = _ from m_put (k := 1) hc (by omega) _, Option.bind_some]
  · rw [if_neg h, if_neg h]
theorem ac_lv {r : Rw} {c : Nat} (h : act r c) : liv r c := Or.inr h.2
/-- a living child's week -/
theorem m_childGoes {c : Nat} (hc : c < 5) (off : Int32) (hl : liv (d.1 80) c) (hb : d.1 80 (12 + 5 * c + 1) = -4 ∨ ∃ s, s < 4 ∧ d.1 80 (12 + 5 * c + 1) = nI s) : f_X9_childGoes L0 d 78 (nI c) off = some (sR d 80 (setK (d.1 80) c (kid off (d.1 80) c))) := by
  unfold f_X9_childGoes
  rw [M_cls, if_pos rfl, show f_X9_of L0 d 78 (nI c) (4 : Int32) = _ from m_of (k := 4) hc (by omega), Option.bind_some, show f_X9_becomesOf L0 d 78 (nI c) (4 : Int32) _ = _ from m_put (k := 4) hc (by omega) _, Option.bind_some, m_isFree hc, Option.bind_some, p80n (by omega)]
  have hage : kAge (d.1 80) c = f_X9_lesser 999 (d.1 80 (12 + 5 * c + 4) + 1) := if_pos hl
  generalize hx : f_X9_lesser 999 (d.1 80 (12 + 5 * c + 4) + 1) = ag at hage ⊢
  by_cases hf : d.1 80 (12 + 5 * c + 1) = -4
  · have hna : ¬ act (d.1 80) c := fun q => q.1 hf
    rw [if_pos hf, if_neg one_ne, pI_sR]
    congr 2
    apply setK_ext
    · rw [upd_n (by omega), kid0]
    · rw [upd_n (by omega), kid1, kBnd, if_neg (fun q => hna q.1)]; rfl
    · rw [upd_n (by omega), kid2, kTerm, if_neg hna]
    · rw [upd_n (by omega), kid3, kSkill, if_neg (fun q => hna q.1)]
    · rw [upd_s, kid4, hage]
    · intro j hj; exact upd_n (by omega)
  · obtain ⟨s, hs, hbs⟩ := hb.resolve_left hf
    have ha : act (d.1 80) c := ⟨hf, hl.resolve_left hf⟩
    rw [if_neg hf, if_pos rfl, M_now, Option.bind_some, show f_X9_of L0 (pI d 80 (12 + 5 * c + 4) ag) 78 (nI c) (1 : Int32) = _ from m_of (k := 1) hc (by omega), Option.bind_some, p80n (by omega), hbs, show ((3 : Int32) * nI s) + (2 : Int32) = nI (3 * s + 2) from ix3 s 2, Mo_now (by omega), if_pos rfl, nI_clamp (show 3 * s + 2 < 2 ^ 31 by omega), show f_X9_of L0 (pI d 80 (12 + 5 * c + 4) ag) 78 (nI c) (3 : Int32) = _ from m_of (k := 3) hc (by omega), Option.bind_some, p80n (j := 12 + 5 * c + 3) (by omega), m_learns hc hs (by rw [p80n (by omega)]; exact hbs), Option.bind_some, p80n (j := 12 + 5 * c) (by omega), p80n (j := 3 * s + 1) (by omega), p80n (j := 3 * s + 2) (by omega)]
    have hth : thenR (d.1 80) c = f_X9_lesser (d.1 80 (3 * s + 2)) (d.1 80 (12 + 5 * c + 3) + mlearn (d.1 80 (12 + 5 * c)) (d.1 80 (3 * s + 1))) := by
      unfold thenR
      rw [show bdR (d.1 80) c = nI s from hbs, nI_clamp (by omega)]
    rw [← hth]
    have hsk : kSkill off (d.1 80) c = if off = 0 then (if thenR (d.1 80) c ≤ d.1 80 (12 + 5 * c + 3) then d.1 80 (12 + 5 * c + 3) else thenR (d.1 80) c) else d.1 80 (12 + 5 * c + 3) := by
      unfold kSkill
      by_cases ho : off = 0
      · rw [if_pos ⟨ha, ho⟩, if_pos ho]
      · rw [if_neg (fun q => ho q.2), if_neg ho]
    have hte : kTerm (d.1 80) c = d.1 80 (12 + 5 * c + 2) - 1 := if_pos ha
    have hbn : kBnd (d.1 80) c = if d.1 80 (12 + 5 * c + 2) - 1 = 0 then -4 else d.1 80 (12 + 5 * c + 1) := by
      unfold kBnd
      by_cases ho : d.1 80 (12 + 5 * c + 2) - 1 = 0
      · rw [if_pos ⟨ha, ho⟩, if_pos ho]
      · rw [if_neg (fun q => ho q.2), if_neg ho]; rfl
    -- the end, for the skill that came
    have fin : ∀ (D : Dt) (sk : Int32), D = (if sk = d.1 80 (12 + 5 * c + 3) then pI d 80 (12 + 5 * c + 4) ag else pI (pI d 80 (12 + 5 * c + 4) ag) 80 (12 + 5 * c + 3) sk) ∨ D = pI (pI d 80 (12 + 5 * c + 4) ag) 80 (12 + 5 * c + 3) sk → kSkill off (d.1 80) c = sk → f_X9_childGoes_J86 L0 D 78 (nI c) = some (sR d 80 (setK (d.1 80) c (kid off (d.1 80) c))) := by
      intro D sk hD hks
      have hDr : D = sR d 80 (upd (upd (d.1 80) (12 + 5 * c + 4) ag) (12 + 5 * c + 3) sk) := by
        have h2 : pI (pI d 80 (12 + 5 * c + 4) ag) 80 (12 + 5 * c + 3) sk = sR d 80 (upd (upd (d.1 80) (12 + 5 * c + 4) ag) (12 + 5 * c + 3) sk) := by
          rw [pI_sR, pI_sR, sR_self, sR_sR]
        rcases hD with hD | hD
        · by_cases hq : sk = d.1 80 (12 + 5 * c + 3)
          · rw [hD, if_pos hq, pI_sR]
            congr 1
            funext j
            by_cases hj : j = 12 + 5 * c + 3
            · subst hj; rw [upd_s, upd_n (by omega), hq]
            · rw [upd_n hj]
          · rw [hD, if_neg hq, h2]
        · rw [hD, h2]
      subst hDr
      have ht : (sR d 80 (upd (upd (d.1 80) (12 + 5 * c + 4) ag) (12 + 5 * c + 3) sk)).1 80 (12 + 5 * c + 2) = d.1 80 (12 + 5 * c + 2) := by
        rw [sR_self, upd_n (by omega), upd_n (by omega)]
      rw [m_goes_J hc, ht]
      congr 1
      by_cases ho : d.1 80 (12 + 5 * c + 2) - 1 = 0
      · rw [if_pos ho, pI_sR, pI_sR, sR_self, sR_self, sR_sR, sR_sR]
        congr 1
        apply setK_ext
        · rw [upd_n (by omega), upd_n (by omega), upd_n (by omega), upd_n (by omega), kid0]
        · rw [upd_s, kid1, hbn, if_pos ho]
        · rw [upd_n (by omega), upd_s, kid2, hte]
        · rw [upd_n (by omega), upd_n (by omega), upd_s, kid3, hks]
        · rw [upd_n (by omega), upd_n (by omega), upd_n (by omega), upd_s, kid4, hage]
        · intro j hj; rw [upd_n (by omega), upd_n (by omega), upd_n (by omega), upd_n (by omega)]
      · rw [if_neg ho, pI_sR, sR_self, sR_sR]
        congr 1
        apply setK_ext
        · rw [upd_n (by omega), upd_n (by omega), upd_n (by omega), kid0]
        · rw [upd_n (by omega), upd_n (by omega), upd_n (by omega), kid1, hbn, if_neg ho]
        · rw [upd_s, kid2, hte]
        · rw [upd_n (by omega), upd_s, kid3, hks]
        · rw [upd_n (by omega), upd_n (by omega), upd_s, kid4, hage]
        · intro j hj; rw [upd_n (by omega), upd_n (by omega), upd_n (by omega)]
    by_cases ho : off = 0
    · rw [if_pos ho, Option.bind_some]
      rw [if_pos ho] at hsk
      by_cases hle : thenR (d.1 80) c ≤ d.1 80 (12 + 5 * c + 3)
      · rw [if_pos hle]
        rw [if_pos hle] at hsk
        exact fin _ _ (Or.inl (by rw [if_pos rfl])) hsk
      · rw [if_neg hle, show f_X9_becomesOf L0 (pI d 80 (12 + 5 * c + 4) ag) 78 (nI c) (3 : Int32) _ = _ from m_put (k := 3) hc (by omega) _, Option.bind_some]
        rw [if_neg hle] at hsk
        exact fin _ _ (Or.inr rfl) hsk
    · rw [if_neg ho]
      rw [if_neg ho] at hsk
      exact fin _ _ (Or.inl (by rw [if_pos rfl])) hsk
end MW
