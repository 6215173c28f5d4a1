/-! ===== sums and bits, class and reference ===== -/
section XS2
variable {d : Dt} {w : Nat} {r : Rw}
theorem x_ageSum_L (hw : isW w) (hR : RW d w r) (hG : Good r) : ∀ (n c : Nat) (v : Int32), c ≤ nk r → nk r - c < n → f_X7_ageSum_L4 L0 d w n v (nI c) = some (fo (fun s i => s + r (12 + 5 * i + 4)) (nk r - c) c v) := by
  have h5 := hG.1.2
  intro n
  induction n with
  | zero => intro c v h1 h2; omega
  | succ n ih =>
    intro c v h1 h2
    unfold f_X7_ageSum_L4
    rw [W_cls hw, if_pos rfl]
    by_cases hc : c = nk r
    · subst hc
      rw [if_pos ((x_le hR hG (by omega)).mpr (Nat.le_refl _)), Nat.sub_self]
      rfl
    · have hc5 : c < 5 := by omega
      rw [if_neg (fun q => hc (Nat.le_antisymm h1 ((x_le hR hG (by omega)).mp q))), W_ch hw, Option.bind_some, W_rac hw hc5, Option.bind_some, W_ccl hw hc5, if_pos rfl, (hR.2.2.1 c (by omega)).2.2.2.1, nI_1, ih (c + 1) _ (by omega) (by omega), fo_succ (show c < nk r by omega)]
theorem x_ageSum (hw : isW w) (hR : RW d w r) (hG : Good r) : f_X7_ageSum L0 d w = some (sumK 4 r) := by
  have h5 := hG.1.2
  exact x_ageSum_L hw hR hG FU 0 0 (Nat.zero_le _) (by unfold FU; omega)
theorem x_termSum_L (hw : isW w) (hR : RW d w r) (hG : Good r) : ∀ (n c : Nat) (v : Int32), c ≤ nk r → nk r - c < n → f_X7_termSum_L4 L0 d w n v (nI c) = some (fo (fun s i => s + r (12 + 5 * i + 2)) (nk r - c) c v) := by
  have h5 := hG.1.2
  intro n
  induction n with
  | zero => intro c v h1 h2; omega
  | succ n ih =>
    intro c v h1 h2
    unfold f_X7_termSum_L4
    rw [W_cls hw, if_pos rfl]
    by_cases hc : c = nk r
    · subst hc
      rw [if_pos ((x_le hR hG (by omega)).mpr (Nat.le_refl _)), Nat.sub_self]
      rfl
    · have hc5 : c < 5 := by omega
      rw [if_neg (fun q => hc (Nat.le_antisymm h1 ((x_le hR hG (by omega)).mp q))), W_ch hw, Option.bind_some, W_rac hw hc5, Option.bind_some, W_ccl hw hc5, if_pos rfl, (hR.2.2.1 c (by omega)).2.1, nI_1, ih (c + 1) _ (by omega) (by omega), fo_succ (show c < nk r by omega)]
theorem x_termSum (hw : isW w) (hR : RW d w r) (hG : Good r) : f_X7_termSum L0 d w = some (sumK 2 r) := by
  have h5 := hG.1.2
  exact x_termSum_L hw hR hG FU 0 0 (Nat.zero_le _) (by unfold FU; omega)
theorem x_isFree (hw : isW w) (hR : RW d w r) (hG : Good r) {c : Nat} (hc : c < nk r) : f_X1_isFree L0 d (w + 10 + c) = some (if r (12 + 5 * c + 1) = -4 then 1 else 0) := by
  have h5 := hG.1.2
  unfold f_X1_isFree
  rw [W_ccl hw (show c < 5 by omega), if_pos rfl]
  by_cases hb : r (12 + 5 * c + 1) = -4
  · rw [if_pos (((hR.2.2.1 c hc).free (hG.2.2.2.2.2.2.1 c hc)).1.mpr hb), if_pos hb]
  · rw [if_neg (fun q => hb (((hR.2.2.1 c hc).free (hG.2.2.2.2.2.2.1 c hc)).1.mp q)), if_neg hb]
theorem x_livesIn (hw : isW w) (hR : RW d w r) (hG : Good r) {c : Nat} (hc : c < nk r) : f_X1_livesIn L0 d (w + 10 + c) (d.1 w 3) = some (if liv r c then 1 else 0) := by
  have h5 := hG.1.2
  unfold f_X1_livesIn
  rw [W_ccl hw (show c < 5 by omega), if_pos rfl, hR.1.2.1]
  by_cases hb : r (12 + 5 * c + 1) = -4
  · rw [if_pos (((hR.2.2.1 c hc).free (hG.2.2.2.2.2.2.1 c hc)).1.mpr hb), if_pos (show liv r c from Or.inl hb)]
  · rw [if_neg (fun q => hb (((hR.2.2.1 c hc).free (hG.2.2.2.2.2.2.1 c hc)).1.mp q)), (hR.2.2.1 c hc).bnd (hG.2.2.2.2.2.2.1 c hc) hb]
    by_cases h2 : r (12 + 5 * c + 1) = r 38
    · rw [if_pos h2, if_pos (show liv r c from Or.inr h2)]
    · rw [if_neg h2, if_neg (show ¬ liv r c from fun q => q.elim hb h2)]
theorem x_isBoundTo (hw : isW w) (hR : RW d w r) (hG : Good r) {c : Nat} (hc : c < nk r) {s : Nat} (hs : s < 4) : f_X1_isBoundTo L0 d (w + 10 + c) (nI s) = some (if r (12 + 5 * c + 1) = nI s then 1 else 0) := by
  have h5 := hG.1.2
  unfold f_X1_isBoundTo
  rw [W_ccl hw (show c < 5 by omega), if_pos rfl]
  by_cases hb : r (12 + 5 * c + 1) = -4
  · rw [if_pos (((hR.2.2.1 c hc).free (hG.2.2.2.2.2.2.1 c hc)).2.mpr hb), if_neg (fun q => nI_ne4 (show s < 2 ^ 31 by omega) (q.symm.trans hb))]
  · rw [if_neg (fun q => hb (((hR.2.2.1 c hc).free (hG.2.2.2.2.2.2.1 c hc)).2.mp q)), (hR.2.2.1 c hc).bnd (hG.2.2.2.2.2.2.1 c hc) hb]
    by_cases h2 : r (12 + 5 * c + 1) = nI s
    · rw [if_pos h2, if_pos h2]
    · rw [if_neg h2, if_neg h2]
theorem one_ne : ¬ (1 : Int32) = 0 := by decide
theorem x_living_L (hw : isW w) (hR : RW d w r) (hG : Good r) : ∀ (n c : Nat) (v : Int32), c ≤ nk r → nk r - c < n → f_X7_living_L4 L0 d w n v (nI c) = some (fo (fun s i => if liv r i then s ||| bitI i else s) (nk r - c) c v) := by
  have h5 := hG.1.2
  intro n
  induction n with
  | zero => intro c v h1 h2; omega
  | succ n ih =>
    intro c v h1 h2
    unfold f_X7_living_L4
    rw [W_cls hw, if_pos rfl]
    by_cases hc : c = nk r
    · subst hc
      rw [if_pos ((x_le hR hG (by omega)).mpr (Nat.le_refl _)), Nat.sub_self]
      rfl
    · have hc5 : c < 5 := by omega
      rw [if_neg (fun q => hc (Nat.le_antisymm h1 ((x_le hR hG (by omega)).mp q))), W_ch hw, Option.bind_some, W_rac hw hc5, Option.bind_some, W_ccl hw hc5, if_pos rfl, x_livesIn hw hR hG (show c < nk r by omega), Option.bind_some, fo_succ (show c < nk r by omega)]
      by_cases hb : liv r c
      · rw [if_pos hb, if_neg one_ne, if_pos hb, nI_1, ih (c + 1) _ (by omega) (by omega)]
        rfl
      · rw [if_neg hb, if_pos rfl, if_neg hb, nI_1, ih (c + 1) _ (by omega) (by omega)]
theorem x_living (hw : isW w) (hR : RW d w r) (hG : Good r) : f_X7_living L0 d w = some (livB r) := by
  have h5 := hG.1.2
  exact x_living_L hw hR hG FU 0 0 (Nat.zero_le _) (by unfold FU; omega)
theorem x_freeOnes_L (hw : isW w) (hR : RW d w r) (hG : Good r) : ∀ (n c : Nat) (v : Int32), c ≤ nk r → nk r - c < n → f_X7_freeOnes_L4 L0 d w n v (nI c) = some (fo (fun s i => if r (12 + 5 * i + 1) = -4 then s ||| bitI i else s) (nk r - c) c v) := by
  have h5 := hG.1.2
  intro n
  induction n with
  | zero => intro c v h1 h2; omega
  | succ n ih =>
    intro c v h1 h2
    unfold f_X7_freeOnes_L4
    rw [W_cls hw, if_pos rfl]
    by_cases hc : c = nk r
    · subst hc
      rw [if_pos ((x_le hR hG (by omega)).mpr (Nat.le_refl _)), Nat.sub_self]
      rfl
    · have hc5 : c < 5 := by omega
      rw [if_neg (fun q => hc (Nat.le_antisymm h1 ((x_le hR hG (by omega)).mp q))), W_ch hw, Option.bind_some, W_rac hw hc5, Option.bind_some, W_ccl hw hc5, if_pos rfl, x_isFree hw hR hG (show c < nk r by omega), Option.bind_some, fo_succ (show c < nk r by omega)]
      by_cases hb : r (12 + 5 * c + 1) = -4
      · rw [if_pos hb, if_neg one_ne, if_pos hb, nI_1, ih (c + 1) _ (by omega) (by omega)]
        rfl
      · rw [if_neg hb, if_pos rfl, if_neg hb, nI_1, ih (c + 1) _ (by omega) (by omega)]
theorem x_freeOnes (hw : isW w) (hR : RW d w r) (hG : Good r) : f_X7_freeOnes L0 d w = some (freB r) := by
  have h5 := hG.1.2
  exact x_freeOnes_L hw hR hG FU 0 0 (Nat.zero_le _) (by unfold FU; omega)
theorem x_boundTo_L {t : Nat} (ht : t < 4) (hw : isW w) (hR : RW d w r) (hG : Good r) : ∀ (n c : Nat) (v : Int32), c ≤ nk r → nk r - c < n → f_X7_boundTo_L4 L0 d w (nI t) n v (nI c) = some (fo (fun s i => if r (12 + 5 * i + 1) = nI t then s ||| bitI i else s) (nk r - c) c v) := by
  have h5 := hG.1.2
  intro n
  induction n with
  | zero => intro c v h1 h2; omega
  | succ n ih =>
    intro c v h1 h2
    unfold f_X7_boundTo_L4
    rw [W_cls hw, if_pos rfl]
    by_cases hc : c = nk r
    · subst hc
      rw [if_pos ((x_le hR hG (by omega)).mpr (Nat.le_refl _)), Nat.sub_self]
      rfl
    · have hc5 : c < 5 := by omega
      rw [if_neg (fun q => hc (Nat.le_antisymm h1 ((x_le hR hG (by omega)).mp q))), W_ch hw, Option.bind_some, W_rac hw hc5, Option.bind_some, W_ccl hw hc5, if_pos rfl, x_isBoundTo hw hR hG (show c < nk r by omega) ht, Option.bind_some, fo_succ (show c < nk r by omega)]
      by_cases hb : r (12 + 5 * c + 1) = nI t
      · rw [if_pos hb, if_neg one_ne, if_pos hb, nI_1, ih (c + 1) _ (by omega) (by omega)]
        rfl
      · rw [if_neg hb, if_pos rfl, if_neg hb, nI_1, ih (c + 1) _ (by omega) (by omega)]
theorem x_boundTo {t : Nat} (ht : t < 4) (hw : isW w) (hR : RW d w r) (hG : Good r) : f_X7_boundTo L0 d w (nI t) = some (bndB r (nI t)) := by
  have h5 := hG.1.2
  exact x_boundTo_L ht hw hR hG FU 0 0 (Nat.zero_le _) (by unfold FU; omega)
theorem x_lengthSum_L (hw : isW w) (hR : RW d w r) : ∀ (n c : Nat) (v : Int32), c ≤ 4 → 4 - c < n → f_X7_lengthSum_L4 L0 d w n v (nI c) = some (fo (fun s i => s + r (3 * i)) (4 - c) c v) := by
  intro n
  induction n with
  | zero => intro c v h1 h2; omega
  | succ n ih =>
    intro c v h1 h2
    unfold f_X7_lengthSum_L4
    by_cases hc : c = 4
    · subst hc
      rw [if_pos (by decide)]
      rfl
    · have hc4 : c < 4 := by omega
      rw [if_neg (show ¬ (4 : Int32) ≤ nI c from nI_ge (b := 4) hc4 (by decide)), W_se hw, Option.bind_some, W_ras hw hc4, Option.bind_some, W_scl hw hc4, if_pos rfl, (hR.2.1 c hc4).1, nI_1, ih (c + 1) _ (by omega) (by omega), fo_succ hc4]
theorem x_lengthSum (hw : isW w) (hR : RW d w r) : f_X7_lengthSum L0 d w = some (lenS r) := x_lengthSum_L hw hR FU 0 0 (by omega) (by unfold FU; omega)
end XS2
section MS
variable {d : Dt} {r : Rw}
theorem ixk (c k : Nat) : ((12 : Int32) + ((5 : Int32) * nI c)) + nI k = nI (12 + 5 * c + k) := by
  show (nI 12 + nI 5 * nI c) + nI k = _
  rw [nI_mul, nI_add, nI_add]
theorem m_of {c k : Nat} (hc : c < 5) (hk : k < 5) : f_X9_of L0 d 78 (nI c) (nI k) = some (d.1 80 (12 + 5 * c + k)) := by
  unfold f_X9_of
  rw [M_now, Option.bind_some, ixk, Mo_now (by omega), if_pos rfl, nI_clamp (by omega)]
theorem m_put {c k : Nat} (hc : c < 5) (hk : k < 5) (v : Int32) : f_X9_becomesOf L0 d 78 (nI c) (nI k) v = some (pI d 80 (12 + 5 * c + k) v) := by
  unfold f_X9_becomesOf
  rw [M_now, Option.bind_some, ixk, Mo_now (by omega), if_pos rfl, nI_clamp (by omega)]
theorem m_isFree {c : Nat} (hc : c < 5) : f_X9_isFree L0 d 78 (nI c) = some (if d.1 80 (12 + 5 * c + 1) = -4 then 1 else 0) := by
  unfold f_X9_isFree
  rw [M_cls, if_pos rfl, show f_X9_of L0 d 78 (nI c) (1 : Int32) = _ from m_of (k := 1) hc (by omega), Option.bind_some]
  by_cases h : d.1 80 (12 + 5 * c + 1) = -4
  · rw [if_pos h, if_pos h]
  · rw [if_neg h, if_neg h]
theorem m_lives {c : Nat} (hc : c < 5) : f_X9_lives L0 d 78 (nI c) = some (if liv (d.1 80) c then 1 else 0) := by
  unfold f_X9_lives
  rw [M_cls, if_pos rfl, m_isFree hc, Option.bind_some]
  by_cases h : d.1 80 (12 + 5 * c + 1) = -4
  · rw [if_pos h, if_neg one_ne, if_pos (show liv (d.1 80) c from Or.inl h)]
  · rw [if_neg h, if_pos rfl, show f_X9_of L0 d 78 (nI c) (1 : Int32) = _ from m_of (k := 1) hc (by omega), Option.bind_some, M_now, Option.bind_some, show okA L0 80 1 (38 : Int32) = true from Mo_now (j := 38) (by omega), if_pos rfl, show ((38 : Int32)).toNatClampNeg = 38 from rfl]
    by_cases h2 : d.1 80 (12 + 5 * c + 1) = d.1 80 38
    · rw [if_pos h2, if_pos (show liv (d.1 80) c from Or.inr h2)]
    · rw [if_neg h2, if_neg (show ¬ liv (d.1 80) c from fun q => q.elim h h2)]
theorem fl1 : f_X9_flag 1 = 1 := rfl
theorem fl0 : f_X9_flag 0 = 0 := rfl
theorem or0 (v x : Int32) : v ||| ((0 : Int32) <<< x) = v := by
  rw [Int32.zero_shiftLeft, Int32.or_zero]
theorem m_le (g : r 37 = nI (nk r)) (h5 : nk r ≤ 5) {c : Nat} (hc : c < 100) : (r 37 ≤ nI c) ↔ nk r ≤ c := by
  rw [g]
  exact nI_leI (by omega) (by omega)
theorem m_livingNow_L (g : (d.1 80) 37 = nI (nk (d.1 80))) (h5 : nk (d.1 80) ≤ 5) : ∀ (n c : Nat) (v : Int32), c ≤ nk (d.1 80) → nk (d.1 80) - c < n → f_X9_livingNow_L4 L0 d 78 n v (nI c) = some (fo (fun s i => if liv (d.1 80) i then s ||| bitI i else s) (nk (d.1 80) - c) c v) := by
  intro n
  induction n with
  | zero => intro c v h1 h2; omega
  | succ n ih =>
    intro c v h1 h2
    unfold f_X9_livingNow_L4
    rw [M_now, Option.bind_some, show okA L0 80 1 (37 : Int32) = true from Mo_now (j := 37) (by omega), if_pos rfl, show ((37 : Int32)).toNatClampNeg = 37 from rfl]
    by_cases hc : c = nk (d.1 80)
    · subst hc
      rw [if_pos ((m_le g h5 (by omega)).mpr (Nat.le_refl _)), Nat.sub_self]
      rfl
    · have hc5 : c < 5 := by omega
      rw [if_neg (fun q => hc (Nat.le_antisymm h1 ((m_le g h5 (by omega)).mp q))), M_cls, if_pos rfl, m_lives hc5, Option.bind_some, fo_succ (show c < nk (d.1 80) by omega)]
      by_cases hb : liv (d.1 80) c
      · rw [if_pos hb, fl1, if_pos hb, nI_1, ih (c + 1) _ (by omega) (by omega)]
        rfl
      · rw [if_neg hb, fl0, or0, if_neg hb, nI_1, ih (c + 1) _ (by omega) (by omega)]
theorem m_livingNow (g : (d.1 80) 37 = nI (nk (d.1 80))) (h5 : nk (d.1 80) ≤ 5) : f_X9_livingNow L0 d 78 = some (livB (d.1 80)) := m_livingNow_L g h5 FU 0 0 (Nat.zero_le _) (by unfold FU; omega)
theorem m_freeNow_L (g : (d.1 80) 37 = nI (nk (d.1 80))) (h5 : nk (d.1 80) ≤ 5) : ∀ (n c : Nat) (v : Int32), c ≤ nk (d.1 80) → nk (d.1 80) - c < n → f_X9_freeNow_L4 L0 d 78 n v (nI c) = some (fo (fun s i => if (d.1 80) (12 + 5 * i + 1) = -4 then s ||| bitI i else s) (nk (d.1 80) - c) c v) := by
  intro n
  induction n with
  | zero => intro c v h1 h2; omega
  | succ n ih =>
    intro c v h1 h2
    unfold f_X9_freeNow_L4
    rw [M_now, Option.bind_some, show okA L0 80 1 (37 : Int32) = true from Mo_now (j := 37) (by omega), if_pos rfl, show ((37 : Int32)).toNatClampNeg = 37 from rfl]
    by_cases hc : c = nk (d.1 80)
    · subst hc
      rw [if_pos ((m_le g h5 (by omega)).mpr (Nat.le_refl _)), Nat.sub_self]
      rfl
    · have hc5 : c < 5 := by omega
      rw [if_neg (fun q => hc (Nat.le_antisymm h1 ((m_le g h5 (by omega)).mp q))), M_cls, if_pos rfl, m_isFree hc5, Option.bind_some, fo_succ (show c < nk (d.1 80) by omega)]
      by_cases hb : d.1 80 (12 + 5 * c + 1) = -4
      · rw [if_pos hb, fl1, if_pos hb, nI_1, ih (c + 1) _ (by omega) (by omega)]
        rfl
      · rw [if_neg hb, fl0, or0, if_neg hb, nI_1, ih (c + 1) _ (by omega) (by omega)]
theorem m_freeNow (g : (d.1 80) 37 = nI (nk (d.1 80))) (h5 : nk (d.1 80) ≤ 5) : f_X9_freeNow L0 d 78 = some (freB (d.1 80)) := m_freeNow_L g h5 FU 0 0 (Nat.zero_le _) (by unfold FU; omega)
theorem m_sumOf_L (g : (d.1 80) 37 = nI (nk (d.1 80))) (h5 : nk (d.1 80) ≤ 5) {k : Nat} (hk : k < 5) : ∀ (n c : Nat) (v : Int32), c ≤ nk (d.1 80) → nk (d.1 80) - c < n → f_X9_sumOf_L4 L0 d 78 (nI k) n v (nI c) = some (fo (fun s i => s + (d.1 80) (12 + 5 * i + k)) (nk (d.1 80) - c) c v) := by
  intro n
  induction n with
  | zero => intro c v h1 h2; omega
  | succ n ih =>
    intro c v h1 h2
    unfold f_X9_sumOf_L4
    rw [M_now, Option.bind_some, show okA L0 80 1 (37 : Int32) = true from Mo_now (j := 37) (by omega), if_pos rfl, show ((37 : Int32)).toNatClampNeg = 37 from rfl]
    by_cases hc : c = nk (d.1 80)
    · subst hc
      rw [if_pos ((m_le g h5 (by omega)).mpr (Nat.le_refl _)), Nat.sub_self]
      rfl
    · have hc5 : c < 5 := by omega
      rw [if_neg (fun q => hc (Nat.le_antisymm h1 ((m_le g h5 (by omega)).mp q))), M_cls, if_pos rfl, m_of hc5 hk, Option.bind_some, fo_succ (show c < nk (d.1 80) by omega), nI_1, ih (c + 1) _ (by omega) (by omega)]
theorem m_sumOf (g : (d.1 80) 37 = nI (nk (d.1 80))) (h5 : nk (d.1 80) ≤ 5) {k : Nat} (hk : k < 5) : f_X9_sumOf L0 d 78 (nI k) = some (sumK k (d.1 80)) := m_sumOf_L g h5 hk FU 0 0 (Nat.zero_le _) (by unfold FU; omega)
theorem m_boundTo_L (g : (d.1 79) 37 = nI (nk (d.1 79))) (h5 : nk (d.1 79) ≤ 5) (t : Int32) : ∀ (n c : Nat) (v : Int32), c ≤ nk (d.1 79) → nk (d.1 79) - c < n → f_X9_boundTo_L4 L0 d 78 t n v (nI c) = some (fo (fun s i => if (d.1 79) (12 + 5 * i + 1) = t then s ||| bitI i else s) (nk (d.1 79) - c) c v) := by
  intro n
  induction n with
  | zero => intro c v h1 h2; omega
  | succ n ih =>
    intro c v h1 h2
    unfold f_X9_boundTo_L4
    rw [M_st, Option.bind_some, show okA L0 79 1 (37 : Int32) = true from Mo_st (j := 37) (by omega), if_pos rfl, show ((37 : Int32)).toNatClampNeg = 37 from rfl]
    by_cases hc : c = nk (d.1 79)
    · subst hc
      rw [if_pos ((m_le g h5 (by omega)).mpr (Nat.le_refl _)), Nat.sub_self]
      rfl
    · have hc5 : c < 5 := by omega
      rw [if_neg (fun q => hc (Nat.le_antisymm h1 ((m_le g h5 (by omega)).mp q))), show ((12 : Int32) + ((5 : Int32) * nI c)) + (1 : Int32) = nI (12 + 5 * c + 1) from ixk c 1, Mo_st (by omega), if_pos rfl, nI_clamp (by omega), fo_succ (show c < nk (d.1 79) by omega)]
      by_cases hb : d.1 79 (12 + 5 * c + 1) = t
      · rw [if_pos hb, fl1, if_pos hb, nI_1, ih (c + 1) _ (by omega) (by omega)]
        rfl
      · rw [if_neg hb, fl0, or0, if_neg hb, nI_1, ih (c + 1) _ (by omega) (by omega)]
theorem m_boundTo (g : (d.1 79) 37 = nI (nk (d.1 79))) (h5 : nk (d.1 79) ≤ 5) (t : Int32) : f_X9_boundTo L0 d 78 t = some (bndB (d.1 79) t) := m_boundTo_L g h5 t FU 0 0 (Nat.zero_le _) (by unfold FU; omega)
/-- the row that starts() lays -/
def cp60 (a b : Rw) : Rw := fun j => if j < 60 then a j else b j
theorem cp60_eq {a b : Rw} : Eq60 (cp60 a b) a := fun j hj => by unfold cp60; rw [if_pos hj]
def cpn (n : Nat) (a b : Rw) : Rw := fun j => if j < n then a j else b j
theorem cpn_succ (n : Nat) (a b : Rw) : upd (cpn n a b) n (a n) = cpn (n + 1) a b := by
  funext j
  unfold upd cpn
  by_cases h : j = n
  · subst h; simp
  · by_cases h2 : j < n
    · simp [h, h2, show j < n + 1 by omega]
    · simp [h, h2, show ¬ j < n + 1 by omega]
theorem m_starts_L {st b : Rw} : ∀ (n c : Nat) (d : Dt), c ≤ 60 → 60 - c < n → d.1 79 = st → d.1 80 = cpn c st b → f_X9_starts_L2 L0 78 n (nI c) d = some (sR d 80 (cpn 60 st b)) := by
  intro n
  induction n with
  | zero => intro c d h1 h2; omega
  | succ n ih =>
    intro c d h1 h2 e1 e2
    unfold f_X9_starts_L2
    by_cases hc : c = 60
    · subst hc
      rw [if_pos (by decide), ← e2, sR_id]
    · rw [if_neg (show ¬ (60 : Int32) ≤ nI c from nI_ge (b := 60) (by omega) (by decide)), M_now, Option.bind_some, M_st, Option.bind_some, Mo_st (show c < 180 by omega), if_pos rfl, Mo_now (show c < 60 by omega), if_pos rfl, nI_clamp (by omega), nI_1, pI_sR, ih (c + 1) _ (by omega) (by omega) ((sR_ne (by omega)).trans e1) (by rw [sR_self, e1, e2, cpn_succ]), sR_sR]
theorem m_starts (d : Dt) : f_X9_starts L0 d 78 = some (sR d 80 (cp60 (d.1 79) (d.1 80))) := m_starts_L (b := d.1 80) FU 0 d (by omega) (by unfold FU; omega) rfl (by funext j; simp [cpn])
theorem m_settles_L {nw b : Rw} : ∀ (n c : Nat) (d : Dt), c ≤ 60 → 60 - c < n → d.1 80 = nw → d.1 79 = cpn c nw b → f_X9_settles_L2 L0 78 n (nI c) d = some (sR d 79 (cpn 60 nw b)) := by
  intro n
  induction n with
  | zero => intro c d h1 h2; omega
  | succ n ih =>
    intro c d h1 h2 e1 e2
    unfold f_X9_settles_L2
    by_cases hc : c = 60
    · subst hc
      rw [if_pos (by decide), ← e2, sR_id]
    · rw [if_neg (show ¬ (60 : Int32) ≤ nI c from nI_ge (b := 60) (by omega) (by decide)), M_now, M_st, Option.bind_some, Option.bind_some, Mo_now (show c < 60 by omega), if_pos rfl, Mo_st (show c < 180 by omega), if_pos rfl, nI_clamp (by omega), nI_1, pI_sR, ih (c + 1) _ (by omega) (by omega) ((sR_ne (by omega)).trans e1) (by rw [sR_self, e1, e2, cpn_succ]), sR_sR]
theorem m_settles (d : Dt) : f_X9_settles L0 d 78 = some (sR d 79 (cp60 (d.1 80) (d.1 79))) := m_settles_L (b := d.1 79) FU 0 d (by omega) (by unfold FU; omega) rfl (by funext j; simp [cpn])
end MS
