/-! ===== weeks; copies of worlds ===== -/
def wkN : Nat → Rw → Rw
  | 0, r => r
  | n + 1, r => wkN n (wk 0 r)
theorem Good.wkN {r : Rw} (g : Good r) : ∀ n, Good (wkN n r) := by
  intro n
  induction n generalizing r with
  | zero => exact g
  | succ n ih => exact ih g.wk
theorem wkN_nk {r : Rw} (h5 : nk r ≤ 5) : ∀ n, nk (wkN n r) = nk r := by
  intro n
  induction n generalizing r with
  | zero => rfl
  | succ n ih =>
    show nk (wkN n (wk 0 r)) = nk r
    rw [ih (by rw [wk_nk h5]; exact h5), wk_nk h5]
theorem wk_eq60 {off : Int32} {r r' : Rw} (h : Eq60 r r') (hW : Wok r) : Eq60 (wk off r) (wk off r') := by
  obtain ⟨g, h5, ⟨i, hi, e⟩, hb⟩ := hW
  have hn := nk_eq h
  have hnit : nit r = nit r' := by unfold nit; rw [h 38 (by omega)]
  have h4 : (i + 1) % 4 < 4 := Nat.mod_lt _ (by decide)
  have hn2 := nit_nI hi e
  intro j hj
  by_cases j38 : j = 38
  · subst j38; rw [wk_38, wk_38, hnit, h 39 (by omega), h 38 (by omega)]
  · by_cases j39 : j = 39
    · subst j39
      rw [wk_39, wk_39, ← hnit, hn2, nI_clamp (by omega), h 39 (by omega), h (3 * ((i + 1) % 4)) (by omega)]
    · by_cases j40 : j = 40
      · subst j40; rw [wk_40, wk_40, h 40 (by omega)]
      · unfold wk
        rw [if_neg j38, if_neg j39, if_neg j40, if_neg j38, if_neg j39, if_neg j40, ← hn]
        by_cases hr : 12 ≤ j ∧ j < 12 + 5 * nk r
        · obtain ⟨c, k, hk, rfl⟩ : ∃ c k, k < 5 ∧ j = 12 + 5 * c + k := ⟨(j - 12) / 5, (j - 12) % 5, by omega, by omega⟩
          have hc : c < nk r := by omega
          rw [wkP_at hc hk, wkP_at hc hk]
          exact kid_congr ⟨fun a ha => h a (by omega), h 38 (by omega), fun a ha => h _ (by omega)⟩ (hb c hc) k
        · rw [wkP_ne hr, wkP_ne hr]
          exact h j hj
theorem wkN_eq60 {r r' : Rw} (h : Eq60 r r') (g : Good r) : ∀ n, Eq60 (wkN n r) (wkN n r') := by
  intro n
  induction n generalizing r r' with
  | zero => exact h
  | succ n ih => exact ih (wk_eq60 h g.wok) g.wk
theorem sumK_eq60 {r r' : Rw} {k : Nat} (h : Eq60 r r') (h5 : nk r ≤ 5) (hk : k < 5) : sumK k r = sumK k r' := by
  unfold sumK
  rw [← nk_eq h]
  exact fo_congr _ _ _ (fun s i _ hi => by rw [h _ (by omega)])
theorem liv_eq60 {r r' : Rw} {i : Nat} (h : Eq60 r r') (hi : i < 5) : liv r i ↔ liv r' i := by
  unfold liv
  rw [h _ (by omega), h 38 (by omega)]
theorem livB_eq60 {r r' : Rw} (h : Eq60 r r') (h5 : nk r ≤ 5) : livB r = livB r' := by
  unfold livB
  rw [← nk_eq h]
  refine fo_congr _ _ _ (fun s i _ hi => ?_)
  by_cases hl : liv r i
  · rw [if_pos hl, if_pos ((liv_eq60 h (by omega)).mp hl)]
  · rw [if_neg hl, if_neg (fun q => hl ((liv_eq60 h (by omega)).mpr q))]
theorem freB_eq60 {r r' : Rw} (h : Eq60 r r') (h5 : nk r ≤ 5) : freB r = freB r' := by
  unfold freB
  rw [← nk_eq h]
  exact fo_congr _ _ _ (fun s i _ hi => by rw [h _ (by omega)])
section XC
variable {w : Nat} {r : Rw}
theorem x_pass_L (hw : isW w) {n : Nat} (hn : n < 1000) : ∀ (f c : Nat) (d : Dt) (r : Rw), c ≤ n → n - c < f → Good r → RW d w r → ∃ d', f_X7_pass_L2 L0 w (nI n) f (nI c) d = some d' ∧ RW d' w (wkN (n - c) r) ∧ Bw w d d' := by
  intro f
  induction f with
  | zero => intro c d r h1 h2; omega
  | succ f ih =>
    intro c d r h1 h2 hG hR
    unfold f_X7_pass_L2
    by_cases hc : c = n
    · subst hc
      rw [if_pos (nI_le (Nat.le_refl _) (by omega)), Nat.sub_self]
      exact ⟨d, rfl, hR, Bw.rf⟩
    · obtain ⟨d1, e1, hR1, hB1⟩ := x_passOne hw hG hR
      rw [if_neg (nI_ge (show c < n by omega) (by omega)), W_cls hw, if_pos rfl, e1, Option.bind_some, nI_1]
      obtain ⟨d2, e2, hR2, hB2⟩ := ih (c + 1) d1 (wk 0 r) (by omega) (by omega) hG.wk hR1
      refine ⟨d2, e2, ?_, hB1.tr hB2⟩
      rw [show n - c = (n - (c + 1)) + 1 by omega]
      exact hR2
theorem x_pass {d : Dt} (hw : isW w) {n : Nat} (hn : n < 900) (hG : Good r) (hR : RW d w r) : ∃ d', f_X7_pass L0 d w (nI n) = some d' ∧ RW d' w (wkN n r) ∧ Bw w d d' := x_pass_L hw (by omega) FU 0 d r (Nat.zero_le _) (by unfold FU; omega) hG hR
theorem m_weeks_L {n : Nat} (hn : n < 1000) : ∀ (f c : Nat) (d : Dt), c ≤ n → n - c < f → Good (d.1 80) → f_X9_weeksGo_L2 L0 78 (nI n) f (nI c) d = some (sR d 80 (wkN (n - c) (d.1 80))) := by
  intro f
  induction f with
  | zero => intro c d h1 h2; omega
  | succ f ih =>
    intro c d h1 h2 hG
    unfold f_X9_weeksGo_L2
    by_cases hc : c = n
    · subst hc
      rw [if_pos (nI_le (Nat.le_refl _) (by omega)), Nat.sub_self]
      show some d = some (sR d 80 (d.1 80))
      rw [sR_id]
    · rw [if_neg (nI_ge (show c < n by omega) (by omega)), M_cls, if_pos rfl, show f_X9_weekGoes L0 d 78 (0 : Int32) = _ from m_weekGoes hG.wok, Option.bind_some, nI_1, ih (c + 1) _ (by omega) (by omega) (by rw [sR_self]; exact hG.wk), sR_sR, sR_self, show n - c = (n - (c + 1)) + 1 by omega]
      rfl
theorem m_weeksGo {d : Dt} {n : Nat} (hn : n < 900) (hG : Good (d.1 80)) : f_X9_weeksGo L0 d 78 (nI n) = some (sR d 80 (wkN n (d.1 80))) := m_weeks_L (by omega) FU 0 d (Nat.zero_le _) (by unfold FU; omega) hG
theorem isW_apart {w w' : Nat} (h : isW w) (h' : isW w') (hn : w ≠ w') : w + 15 ≤ w' ∨ w' + 15 ≤ w := by
  rcases h with rfl | rfl | rfl | rfl <;> rcases h' with rfl | rfl | rfl | rfl <;> omega
theorem x_scopy {d : Dt} {p q : Nat} (hp : clsAt L0 p = some 4) (hq : clsAt L0 q = some 4) (hne : p ≠ q) : ∃ D, f_X4_copy L0 d q p = some D ∧ (∀ a, a ≠ q → D.1 a = d.1 a) ∧ D.2 = d.2 ∧ D.1 q 0 = d.1 p 0 ∧ D.1 q 1 = d.1 p 1 ∧ D.1 q 2 = d.1 p 2 := by
  unfold f_X4_copy
  rw [hp, if_pos rfl, hq, if_pos rfl]
  refine ⟨_, rfl, fun a ha => by rw [pI_ne ha, pI_ne ha, pI_ne ha], rfl, ?_, ?_, ?_⟩
  · rw [pk (by decide), pk (by decide), ps]
  · rw [pk (by decide), ps, pI_ne hne]
  · rw [ps, pI_ne hne, pI_ne hne]
theorem x_ccopy {d : Dt} {p q : Nat} (hp : clsAt L0 p = some 1) (hq : clsAt L0 q = some 1) (hne : p ≠ q) : ∃ D, f_X1_copy L0 d q p = some D ∧ (∀ a, a ≠ q → D.1 a = d.1 a) ∧ D.2 = d.2 ∧ D.1 q 0 = d.1 p 0 ∧ D.1 q 1 = d.1 p 1 ∧ D.1 q 2 = d.1 p 2 ∧ D.1 q 3 = d.1 p 3 ∧ D.1 q 4 = d.1 p 4 := by
  unfold f_X1_copy
  rw [hp, if_pos rfl, hq, if_pos rfl]
  refine ⟨_, rfl, fun a ha => by rw [pI_ne ha, pI_ne ha, pI_ne ha, pI_ne ha, pI_ne ha], rfl, ?_, ?_, ?_, ?_, ?_⟩
  · rw [pk (by decide), pk (by decide), pk (by decide), pk (by decide), ps]
  · rw [pk (by decide), pk (by decide), pk (by decide), ps, pI_ne hne]
  · rw [pk (by decide), pk (by decide), ps, pI_ne hne, pI_ne hne]
  · rw [pk (by decide), ps, pI_ne hne, pI_ne hne, pI_ne hne]
  · rw [ps, pI_ne hne, pI_ne hne, pI_ne hne, pI_ne hne]
theorem x_copyS {w w' : Nat} {d0 : Dt} (hw : isW w) (hw' : isW w') (hne : w ≠ w') {k : Int32 → Dt → Option Dt} : ∀ (n s : Nat) (d : Dt), s ≤ 4 → 4 - s < n → (∀ a, (a < w' + 6 ∨ w' + 6 + s ≤ a) → d.1 a = d0.1 a) → d.2 = d0.2 → (∀ t, t < s → d.1 (w' + 6 + t) 0 = d0.1 (w + 6 + t) 0 ∧ d.1 (w' + 6 + t) 1 = d0.1 (w + 6 + t) 1 ∧ d.1 (w' + 6 + t) 2 = d0.1 (w + 6 + t) 2) →
    ∃ d', (∀ a, (a < w' + 6 ∨ w' + 10 ≤ a) → d'.1 a = d0.1 a) ∧ d'.2 = d0.2 ∧ (∀ t, t < 4 → d'.1 (w' + 6 + t) 0 = d0.1 (w + 6 + t) 0 ∧ d'.1 (w' + 6 + t) 1 = d0.1 (w + 6 + t) 1 ∧ d'.1 (w' + 6 + t) 2 = d0.1 (w + 6 + t) 2) ∧ f_X7_copy_L2 L0 w' w k n (nI s) d = k (nI 4) d' := by
  have hap := isW_apart hw hw' hne
  intro n
  induction n with
  | zero => intro s d h1 h2; omega
  | succ n ih =>
    intro s d h1 h2 hA h02 hT
    unfold f_X7_copy_L2
    by_cases hs : s = 4
    · subst hs
      rw [if_pos (by decide)]
      exact ⟨d, hA, h02, hT, rfl⟩
    · have hs4 : s < 4 := by omega
      rw [if_neg (show ¬ (4 : Int32) ≤ nI s from nI_ge (b := 4) hs4 (by decide)), W_se hw', Option.bind_some, W_ras hw' hs4, Option.bind_some, W_se hw, Option.bind_some, W_ras hw hs4, Option.bind_some, W_scl hw' hs4, if_pos rfl]
      obtain ⟨D, e1, h6, h7, c0, c1, c2⟩ := x_scopy (d := d) (W_scl hw hs4) (W_scl hw' hs4) (by omega)
      rw [e1, Option.bind_some, nI_1]
      refine ih (s + 1) D (by omega) (by omega) (fun a ha => by rw [h6 a (by omega)]; exact hA a (by omega)) (h7.trans h02) (fun t ht => ?_)
      by_cases hts : t = s
      · subst hts
        rw [c0, c1, c2, hA (w + 6 + t) (by omega)]
        exact ⟨rfl, rfl, rfl⟩
      · rw [h6 _ (by omega)]
        exact hT t (by omega)
theorem x_copyC {w w' : Nat} {d0 : Dt} (hw : isW w) (hw' : isW w') (hne : w ≠ w') {m : Nat} (hm : m ≤ 5) (hsz : d0.1 w 2 = nI m) {k : Int32 → Dt → Option Dt} : ∀ (n s : Nat) (d : Dt), s ≤ m → m - s < n → (∀ a, (a < w' + 10 ∨ w' + 10 + s ≤ a) → d.1 a = d0.1 a) → d.2 = d0.2 → (∀ t, t < s → d.1 (w' + 10 + t) 0 = d0.1 (w + 10 + t) 0 ∧ d.1 (w' + 10 + t) 1 = d0.1 (w + 10 + t) 1 ∧ d.1 (w' + 10 + t) 2 = d0.1 (w + 10 + t) 2 ∧ d.1 (w' + 10 + t) 3 = d0.1 (w + 10 + t) 3 ∧ d.1 (w' + 10 + t) 4 = d0.1 (w + 10 + t) 4) →
    ∃ d', (∀ a, (a < w' + 10 ∨ w' + 15 ≤ a) → d'.1 a = d0.1 a) ∧ d'.2 = d0.2 ∧ (∀ t, t < m → d'.1 (w' + 10 + t) 0 = d0.1 (w + 10 + t) 0 ∧ d'.1 (w' + 10 + t) 1 = d0.1 (w + 10 + t) 1 ∧ d'.1 (w' + 10 + t) 2 = d0.1 (w + 10 + t) 2 ∧ d'.1 (w' + 10 + t) 3 = d0.1 (w + 10 + t) 3 ∧ d'.1 (w' + 10 + t) 4 = d0.1 (w + 10 + t) 4) ∧ f_X7_copy_L30 L0 w' w k n (nI s) d = k (nI m) d' := by
  have hap := isW_apart hw hw' hne
  intro n
  induction n with
  | zero => intro s d h1 h2; omega
  | succ n ih =>
    intro s d h1 h2 hA h02 hT
    unfold f_X7_copy_L30
    rw [W_cls hw, if_pos rfl, hA w (by omega), hsz]
    by_cases hs : s = m
    · subst hs
      rw [if_pos (nI_le (Nat.le_refl _) (by omega))]
      exact ⟨d, fun a ha => hA a (by omega), h02, hT, rfl⟩
    · have hs5 : s < 5 := by omega
      rw [if_neg (nI_ge (show s < m by omega) (by omega)), W_ch hw', Option.bind_some, W_rac hw' hs5, Option.bind_some, W_ch hw, Option.bind_some, W_rac hw hs5, Option.bind_some, W_ccl hw' hs5, if_pos rfl]
      obtain ⟨D, e1, h6, h7, c0, c1, c2, c3, c4⟩ := x_ccopy (d := d) (W_ccl hw hs5) (W_ccl hw' hs5) (by omega)
      rw [e1, Option.bind_some, nI_1]
      refine ih (s + 1) D (by omega) (by omega) (fun a ha => by rw [h6 a (by omega)]; exact hA a (by omega)) (h7.trans h02) (fun t ht => ?_)
      by_cases hts : t = s
      · subst hts
        rw [c0, c1, c2, c3, c4, hA (w + 10 + t) (by omega)]
        exact ⟨rfl, rfl, rfl, rfl, rfl⟩
      · rw [h6 _ (by omega)]
        exact hT t (by omega)
theorem x_copyN {w w' : Nat} {d0 : Dt} (hw : isW w) (hw' : isW w') (hne : w ≠ w') {m : Nat} (hm : m ≤ 6) (hsz : d0.1 w 9 = nI m) : ∀ (n s : Nat) (d : Dt), s ≤ m → m - s < n → (∀ a, (a < w' + 3 ∨ w' + 6 ≤ a) → d.1 a = d0.1 a) → d.2 = d0.2 → (∀ t, t < s → d.1 (w' + 3) t = d0.1 (w + 3) t ∧ d.1 (w' + 4) t = d0.1 (w + 4) t ∧ d.1 (w' + 5) t = d0.1 (w + 5) t) →
    ∃ d', (∀ a, (a < w' + 3 ∨ w' + 6 ≤ a) → a ≠ w' → d'.1 a = d0.1 a) ∧ d'.2 = d0.2 ∧ (∀ j, j ≠ 9 → d'.1 w' j = d0.1 w' j) ∧ d'.1 w' 9 = nI m ∧ (∀ t, t < m → d'.1 (w' + 3) t = d0.1 (w + 3) t ∧ d'.1 (w' + 4) t = d0.1 (w + 4) t ∧ d'.1 (w' + 5) t = d0.1 (w + 5) t) ∧ f_X7_copy_L93 L0 w' w n (nI s) d = some d' := by
  have hap := isW_apart hw hw' hne
  intro n
  induction n with
  | zero => intro s d h1 h2; omega
  | succ n ih =>
    intro s d h1 h2 hA h02 hT
    unfold f_X7_copy_L93
    rw [W_cls hw, if_pos rfl, hA w (by omega), hsz]
    by_cases hs : s = m
    · subst hs
      rw [if_pos (nI_le (Nat.le_refl _) (by omega)), W_cls hw', if_pos rfl]
      refine ⟨pI d w' 9 (nI s), fun a ha hn => by rw [pI_ne hn]; exact hA a ha, h02, fun j hj => by rw [pk hj, hA w' (by omega)], ps, fun t ht => ?_, rfl⟩
      rw [pI_ne (by omega), pI_ne (by omega), pI_ne (by omega)]
      exact hT t ht
    · have hs6 : s < 6 := by omega
      rw [if_neg (nI_ge (show s < m by omega) (by omega)), W_sb hw', Option.bind_some, W_sb hw, Option.bind_some, W_ok3 hw hs6, if_pos rfl, W_ok3 hw' hs6, if_pos rfl, W_sc hw', Option.bind_some, W_sc hw, Option.bind_some, W_ok4 hw hs6, if_pos rfl, W_ok4 hw' hs6, if_pos rfl, W_sk hw', Option.bind_some, W_sk hw, Option.bind_some, W_ok5 hw hs6, if_pos rfl, W_ok5 hw' hs6, if_pos rfl, nI_clamp (by omega), nI_1]
      refine ih (s + 1) _ (by omega) (by omega) (fun a ha => by rw [pI_ne (by omega), pI_ne (by omega), pI_ne (by omega)]; exact hA a ha) h02 (fun t ht => ?_)
      rw [pI_ne (a := w' + 3) (q := w' + 5) (by omega), pI_ne (a := w' + 3) (q := w' + 4) (by omega), pI_ne (a := w' + 4) (q := w' + 5) (by omega)]
      by_cases hts : t = s
      · subst hts
        rw [ps, ps, ps, pI_ne (by omega), pI_ne (by omega), pI_ne (by omega), hA (w + 3) (by omega), hA (w + 4) (by omega), hA (w + 5) (by omega)]
        exact ⟨rfl, rfl, rfl⟩
      · rw [pk hts, pk hts, pk hts, pI_ne (by omega), pI_ne (by omega), pI_ne (by omega)]
        exact hT t (by omega)
theorem x_copy {w w' : Nat} {d : Dt} (hw : isW w) (hw' : isW w') (hne : w ≠ w') (hG : Good r) (hR : RW d w r) : ∃ d', f_X7_copy L0 d w' w = some d' ∧ RW d' w' r ∧ Bw w' d d' := by
  have hap := isW_apart hw hw' hne
  have h5 := hG.1.2
  unfold f_X7_copy
  obtain ⟨d1, a1, a2, a3, a4⟩ := x_copyS (d0 := d) hw hw' hne (k := fun x8_2 d8 => _) FU 0 d (by omega) (by unfold FU; omega) (fun _ _ => rfl) rfl (fun t ht => absurd ht (Nat.not_lt_zero t))
  rw [show f_X7_copy_L2 L0 w' w _ FU (0 : Int32) d = _ from a4]
  obtain ⟨d2, b1, b2, b3, b4⟩ := x_copyC (d0 := d1) hw hw' hne h5 (by rw [a1 w (by omega)]; exact hR.sz hG) (k := fun x17_2 d17 => _) FU 0 d1 (Nat.zero_le _) (by unfold FU; omega) (fun _ _ => rfl) rfl (fun t ht => absurd ht (Nat.not_lt_zero t))
  rw [show f_X7_copy_L30 L0 w' w _ FU (0 : Int32) d1 = _ from b4, W_cls hw, if_pos rfl, W_cls hw', if_pos rfl]
  have hw2 : d2.1 w = d.1 w := (b1 w (by omega)).trans (a1 w (by omega))
  have hww : w ≠ w' := hne
  simp only [pI_ne hww]
  generalize hD : pI (pI (pI (pI d2 w' 2 (d2.1 w 2)) w' 3 (d2.1 w 3)) w' 4 (d2.1 w 4)) w' 5 (d2.1 w 5) = d3
  have c0 : ∀ a, a ≠ w' → d3.1 a = d2.1 a := fun a ha => by rw [← hD, pI_ne ha, pI_ne ha, pI_ne ha, pI_ne ha]
  have c02 : d3.2 = d2.2 := by rw [← hD]; rfl
  have c2 : d3.1 w' 2 = d.1 w 2 := by rw [← hD, pk (by decide), pk (by decide), pk (by decide), ps, hw2]
  have c3 : d3.1 w' 3 = d.1 w 3 := by rw [← hD, pk (by decide), pk (by decide), ps, hw2]
  have c4 : d3.1 w' 4 = d.1 w 4 := by rw [← hD, pk (by decide), ps, hw2]
  have c5 : d3.1 w' 5 = d.1 w 5 := by rw [← hD, ps, hw2]
  obtain ⟨d4, e1, e2, e3, e4, e5, e6⟩ := x_copyN (d0 := d3) hw hw' hne hG.2.2.2.2.1.2 (by rw [c0 w hww, hw2]; exact hR.1.2.2.2.2.trans hG.2.2.2.2.1.1) FU 0 d3 (Nat.zero_le _) (by have := hG.2.2.2.2.1.2; unfold FU; omega) (fun _ _ => rfl) rfl (fun t ht => absurd ht (Nat.not_lt_zero t))
  refine ⟨d4, e6, ⟨⟨by rw [e3 2 (by decide), c2]; exact hR.1.1, by rw [e3 3 (by decide), c3]; exact hR.1.2.1, by rw [e3 4 (by decide), c4]; exact hR.1.2.2.1, by rw [e3 5 (by decide), c5]; exact hR.1.2.2.2.1, e4.trans hG.2.2.2.2.1.1.symm⟩, fun s hs => ?_, fun c hc => ?_, fun i hi => ?_⟩, fun a ha => ?_, ?_⟩
  · rw [e1 _ (by omega) (by omega), c0 _ (by omega), b1 _ (by omega), (a3 s hs).1, (a3 s hs).2.1, (a3 s hs).2.2]
    exact hR.2.1 s hs
  · obtain ⟨q0, q1, q2, q3, q4⟩ := b3 c hc
    have := hR.2.2.1 c hc
    unfold KR at *
    rw [e1 _ (by omega) (by omega), c0 _ (by omega), q0, q1, q2, q3, q4, a1 _ (by omega)]
    exact this
  · obtain ⟨q0, q1, q2⟩ := e5 i hi
    rw [q0, q1, q2, c0 _ (by omega), c0 _ (by omega), c0 _ (by omega), b1 _ (by omega), b1 _ (by omega), b1 _ (by omega), a1 _ (by omega), a1 _ (by omega), a1 _ (by omega)]
    exact hR.2.2.2 i hi
  · rw [e1 a (by omega) (by omega), c0 a (by omega), b1 a (by omega), a1 a (by omega)]
  · rw [e2, c02, b2, a2]
end XC
