/-! ===== home, meet ===== -/
def hoF (c : Nat) : Nat → Nat → Rw → Int32
  | 0, _, _ => -4
  | n + 1, v, r => if 60 < v then -4 else if r (12 + 5 * c + 1) = -4 then nI v else hoF c n (v + 1) (wk 0 r)
theorem i60 {v : Nat} (hv : v < 1000) : ((60 : Int32) < nI v) ↔ 60 < v := nI_ltI (a := 60) (by omega) (by omega)
theorem x_home_L {c : Nat} : ∀ (n v : Nat) (d : Dt) (r : Rw), v ≤ 61 → 61 - v < n → Good r → RW d 18 r → c < nk r → ∃ d', Bw 18 d d' ∧ f_X8_home_L26 L0 0 (nI c) n (nI v) d = some (hoF c n v r, d') := by
  intro n
  induction n with
  | zero => intro v d r h1 h2; omega
  | succ n ih =>
    intro v d r h1 h2 hG hR hc
    have h5 := hG.1.2
    have hc5 : c < 5 := by omega
    unfold f_X8_home_L26 hoF
    by_cases h6 : 60 < v
    · rw [if_pos ((i60 (by omega)).mpr h6), if_pos h6]
      exact ⟨d, Bw.rf, rfl⟩
    · rw [if_neg (fun q => h6 ((i60 (by omega)).mp q)), if_neg h6, X_trial, Option.bind_some, W_ch isW18, Option.bind_some, W_rac isW18 hc5, Option.bind_some, W_ccl isW18 hc5, if_pos rfl, x_isFree isW18 hR hG hc, Option.bind_some]
      by_cases hb : r (12 + 5 * c + 1) = -4
      · rw [if_pos hb, if_neg one_ne, if_pos hb]
        exact ⟨d, Bw.rf, rfl⟩
      · obtain ⟨d1, e1, hR1, hB1⟩ := x_passOne isW18 hG hR
        rw [if_neg hb, if_pos rfl, if_neg hb, W_cls isW18, if_pos rfl, e1, Option.bind_some, nI_1]
        obtain ⟨d2, hB2, e2⟩ := ih (v + 1) d1 (wk 0 r) (by omega) (by omega) hG.wk hR1 (by rw [wk_nk h5]; exact hc)
        exact ⟨d2, hB1.tr hB2, e2⟩
theorem m_home_L {c : Nat} : ∀ (n v : Nat) (d : Dt) (r : Rw), v ≤ 61 → 61 - v < n → Good r → Eq60 (d.1 80) r → c < nk r → ∃ d', Bn d d' ∧ f_X9_home_L16 L0 78 (nI c) n (nI v) d = some (hoF c n v r, d') := by
  intro n
  induction n with
  | zero => intro v d r h1 h2; omega
  | succ n ih =>
    intro v d r h1 h2 hG hR hc
    have h5 := hG.1.2
    have hc5 : c < 5 := by omega
    unfold f_X9_home_L16 hoF
    by_cases h6 : 60 < v
    · rw [if_pos ((i60 (by omega)).mpr h6), if_pos h6]
      exact ⟨d, Bn.rf, rfl⟩
    · rw [if_neg (fun q => h6 ((i60 (by omega)).mp q)), if_neg h6, M_cls, if_pos rfl, m_isF hR hc5, Option.bind_some]
      by_cases hb : r (12 + 5 * c + 1) = -4
      · rw [if_pos hb, if_neg one_ne, if_pos hb]
        exact ⟨d, Bn.rf, rfl⟩
      · obtain ⟨d1, e1, hR1, hB1⟩ := m_wk hR hG 0
        rw [if_neg hb, if_pos rfl, if_neg hb, e1, Option.bind_some, nI_1]
        obtain ⟨d2, hB2, e2⟩ := ih (v + 1) d1 (wk 0 r) (by omega) (by omega) hG.wk hR1 (by rw [wk_nk h5]; exact hc)
        exact ⟨d2, hB1.tr hB2, e2⟩
theorem st_home {d : Dt} (hI : Inv d) (a1 : Int32) : ∃ (z1 : Int32 × Dt) (z2 : Int32 × Dt), f_X8_home L0 d 0 a1 = some z1 ∧ f_X9_home L0 z1.2 78 a1 = some z2 ∧ z1.1 = z2.1 ∧ Inv z2.2 := by
  obtain ⟨hR, hG, -⟩ := id hI
  have h5 := hG.1.2
  by_cases h : f_X8_within a1 0 (d.1 79 37 - 1) = 0
  · exact ⟨(-1, d), (-1, d), by unfold f_X8_home; rw [X_world, Option.bind_some, W_cls isW3, if_pos rfl, x_has isW3 hR, Option.bind_some, if_pos h], by unfold f_X9_home; rw [M_cls, if_pos rfl, m_isChild, Option.bind_some, if_pos h], rfl, hI⟩
  have h' := h
  rw [hG.1.1] at h'
  obtain ⟨c, hc, rfl⟩ := (has_iff (by omega)).mp h'
  obtain ⟨d0, e0, hR0, hB0⟩ := x_cp hI
  obtain ⟨d1, hB1, e1⟩ := x_home_L (c := c) FU 0 d0 (d.1 79) (by omega) (by unfold FU; omega) hG hR0 hc
  have hB : Bw 18 d d1 := hB0.tr hB1
  have hE : Eq60 ((sd d1).1 80) (d.1 79) := by rw [← bw79 hB]; exact sd_80
  obtain ⟨D, hB2, e2⟩ := m_home_L (c := c) FU 0 (sd d1) (d.1 79) (by omega) (by unfold FU; omega) hG hE hc
  refine ⟨(hoF c FU 0 (d.1 79), d1), (hoF c FU 0 (d.1 79), D), ?_, ?_, rfl, hI.q hB (sd_bn.tr hB2)⟩
  · unfold f_X8_home
    rw [X_world, Option.bind_some, W_cls isW3, if_pos rfl, x_has isW3 hR, Option.bind_some, if_neg h, X_trial, Option.bind_some, W_cls isW18, if_pos rfl, e0, Option.bind_some]
    exact e1
  · unfold f_X9_home
    rw [M_cls, if_pos rfl, m_isChild, Option.bind_some, bw79 hB, if_neg h, sd_st, Option.bind_some]
    exact e2
theorem two_bits (b : Nat → Bool) (n : Nat) (hn : n ≤ 5) (c e : Nat) (hc : c < n) (he : e < n) : ((fo (fun (s : Int32) i => if b i = true then s ||| bitI i else s) n 0 0) &&& (bitI c ||| bitI e) = (bitI c ||| bitI e)) ↔ (b c = true ∧ b e = true) := by
  have key : ∀ (n : Fin 6) (c e : Fin 5) (x0 x1 x2 x3 x4 : Bool), c.val < n.val → e.val < n.val → (((fo (fun (s : Int32) i => if [x0, x1, x2, x3, x4].getD i false = true then s ||| bitI i else s) n.val 0 0) &&& (bitI c.val ||| bitI e.val) = (bitI c.val ||| bitI e.val)) ↔ ([x0, x1, x2, x3, x4].getD c.val false = true ∧ [x0, x1, x2, x3, x4].getD e.val false = true)) := by decide +kernel
  have k1 := key ⟨n, by omega⟩ ⟨c, by omega⟩ ⟨e, by omega⟩ (b 0) (b 1) (b 2) (b 3) (b 4) hc he
  have hb : ∀ i, i < 5 → [b 0, b 1, b 2, b 3, b 4].getD i false = b i := by
    intro i hi
    rcases (show i = 0 ∨ i = 1 ∨ i = 2 ∨ i = 3 ∨ i = 4 by omega) with rfl | rfl | rfl | rfl | rfl <;> rfl
  rw [hb c (by omega), hb e (by omega)] at k1
  rw [← k1]
  have hfo : fo (fun (s : Int32) i => if b i = true then s ||| bitI i else s) n 0 0 = fo (fun (s : Int32) i => if [b 0, b 1, b 2, b 3, b 4].getD i false = true then s ||| bitI i else s) n 0 0 := fo_congr n 0 0 (fun s i _ h2 => by rw [hb i (by omega)])
  rw [hfo]
theorem two_liv {r : Rw} (h5 : nk r ≤ 5) {c e : Nat} (hc : c < nk r) (he : e < nk r) : (livB r &&& (bitI c ||| bitI e) = (bitI c ||| bitI e)) ↔ (liv r c ∧ liv r e) := by
  have h := two_bits (fun i => decide (liv r i)) (nk r) h5 c e hc he
  simp only [decide_eq_true_eq] at h
  exact h
def meF (c e : Nat) : Nat → Nat → Rw → Int32
  | 0, _, _ => -4
  | n + 1, v, r => if 60 < v then -4 else if liv r c ∧ liv r e then nI v else meF c e n (v + 1) (wk 0 r)
theorem x_meet_L {c e : Nat} : ∀ (n v : Nat) (d : Dt) (r : Rw), v ≤ 61 → 61 - v < n → Good r → RW d 18 r → c < nk r → e < nk r → ∃ d', Bw 18 d d' ∧ f_X8_meet_L51 L0 0 (bitI c ||| bitI e) n (nI v) d = some (meF c e n v r, d') := by
  intro n
  induction n with
  | zero => intro v d r h1 h2; omega
  | succ n ih =>
    intro v d r h1 h2 hG hR hc he
    have h5 := hG.1.2
    unfold f_X8_meet_L51 meF
    by_cases h6 : 60 < v
    · rw [if_pos ((i60 (by omega)).mpr h6), if_pos h6]
      exact ⟨d, Bw.rf, rfl⟩
    · rw [if_neg (fun q => h6 ((i60 (by omega)).mp q)), if_neg h6, X_trial, Option.bind_some, W_cls isW18, if_pos rfl, x_living isW18 hR hG, Option.bind_some]
      by_cases hb : liv r c ∧ liv r e
      · rw [if_pos ((two_liv h5 hc he).mpr hb), if_pos hb]
        exact ⟨d, Bw.rf, rfl⟩
      · obtain ⟨d1, e1, hR1, hB1⟩ := x_passOne isW18 hG hR
        rw [if_neg (fun q => hb ((two_liv h5 hc he).mp q)), if_neg hb, e1, Option.bind_some, nI_1]
        obtain ⟨d2, hB2, e2⟩ := ih (v + 1) d1 (wk 0 r) (by omega) (by omega) hG.wk hR1 (by rw [wk_nk h5]; exact hc) (by rw [wk_nk h5]; exact he)
        exact ⟨d2, hB1.tr hB2, e2⟩
theorem m_meet_L {c e : Nat} : ∀ (n v : Nat) (d : Dt) (r : Rw), v ≤ 61 → 61 - v < n → Good r → Eq60 (d.1 80) r → c < nk r → e < nk r → ∃ d', Bn d d' ∧ f_X9_meet_L29 L0 78 (nI c) (nI e) n (nI v) d = some (meF c e n v r, d') := by
  intro n
  induction n with
  | zero => intro v d r h1 h2; omega
  | succ n ih =>
    intro v d r h1 h2 hG hR hc he
    have h5 := hG.1.2
    unfold f_X9_meet_L29 meF
    by_cases h6 : 60 < v
    · rw [if_pos ((i60 (by omega)).mpr h6), if_pos h6]
      exact ⟨d, Bn.rf, rfl⟩
    · obtain ⟨d1, e1, hR1, hB1⟩ := m_wk hR hG 0
      obtain ⟨d2, hB2, e2⟩ := ih (v + 1) d1 (wk 0 r) (by omega) (by omega) hG.wk hR1 (by rw [wk_nk h5]; exact hc) (by rw [wk_nk h5]; exact he)
      rw [if_neg (fun q => h6 ((i60 (by omega)).mp q)), if_neg h6, M_cls, if_pos rfl, m_lvs hR (by omega), Option.bind_some, m_lvs hR (by omega), Option.bind_some, e1, nI_1]
      by_cases hb : liv r c
      · rw [if_pos hb, if_neg one_ne]
        by_cases hb2 : liv r e
        · rw [if_pos hb2, if_neg one_ne, if_pos ⟨hb, hb2⟩]
          exact ⟨d, Bn.rf, rfl⟩
        · rw [if_neg hb2, if_pos rfl, if_neg (fun q => hb2 q.2), Option.bind_some]
          exact ⟨d2, hB1.tr hB2, e2⟩
      · rw [if_neg hb, if_pos rfl, if_neg (fun q => hb q.1), Option.bind_some]
        exact ⟨d2, hB1.tr hB2, e2⟩
theorem st_meet {d : Dt} (hI : Inv d) (a1 a2 : Int32) : ∃ (z1 : Int32 × Dt) (z2 : Int32 × Dt), f_X8_meet L0 d 0 a1 a2 = some z1 ∧ f_X9_meet L0 z1.2 78 a1 a2 = some z2 ∧ z1.1 = z2.1 ∧ Inv z2.2 := by
  obtain ⟨hR, hG, -⟩ := id hI
  have h5 := hG.1.2
  by_cases h : f_X8_within a1 0 (d.1 79 37 - 1) = 0
  · exact ⟨(-1, d), (-1, d), by unfold f_X8_meet; rw [X_world, Option.bind_some, W_cls isW3, if_pos rfl, x_has isW3 hR, Option.bind_some, if_pos h], by unfold f_X9_meet; rw [M_cls, if_pos rfl, m_isChild, Option.bind_some, if_pos h], rfl, hI⟩
  by_cases h2 : f_X8_within a2 0 (d.1 79 37 - 1) = 0
  · exact ⟨(-1, d), (-1, d), by unfold f_X8_meet; rw [X_world, Option.bind_some, W_cls isW3, if_pos rfl, x_has isW3 hR, Option.bind_some, if_neg h, x_has isW3 hR, Option.bind_some, if_pos h2], by unfold f_X9_meet; rw [M_cls, if_pos rfl, m_isChild, Option.bind_some, if_neg h, m_isChild, Option.bind_some, if_pos h2], rfl, hI⟩
  by_cases h3 : a1 = a2
  · exact ⟨(-1, d), (-1, d), by unfold f_X8_meet; rw [X_world, Option.bind_some, W_cls isW3, if_pos rfl, x_has isW3 hR, Option.bind_some, if_neg h, x_has isW3 hR, Option.bind_some, if_neg h2, if_pos h3], by unfold f_X9_meet; rw [M_cls, if_pos rfl, m_isChild, Option.bind_some, if_neg h, m_isChild, Option.bind_some, if_neg h2, if_pos h3], rfl, hI⟩
  have h' := h
  have h2' := h2
  rw [hG.1.1] at h' h2'
  obtain ⟨c, hc, rfl⟩ := (has_iff (by omega)).mp h'
  obtain ⟨e, he, rfl⟩ := (has_iff (by omega)).mp h2'
  obtain ⟨d0, e0, hR0, hB0⟩ := x_cp hI
  obtain ⟨d1, hB1, e1⟩ := x_meet_L (c := c) (e := e) FU 0 d0 (d.1 79) (by omega) (by unfold FU; omega) hG hR0 hc he
  have hB : Bw 18 d d1 := hB0.tr hB1
  have hE : Eq60 ((sd d1).1 80) (d.1 79) := by rw [← bw79 hB]; exact sd_80
  obtain ⟨D, hB2, e2⟩ := m_meet_L (c := c) (e := e) FU 0 (sd d1) (d.1 79) (by omega) (by unfold FU; omega) hG hE hc he
  refine ⟨(meF c e FU 0 (d.1 79), d1), (meF c e FU 0 (d.1 79), D), ?_, ?_, rfl, hI.q hB (sd_bn.tr hB2)⟩
  · unfold f_X8_meet
    rw [X_world, Option.bind_some, W_cls isW3, if_pos rfl, x_has isW3 hR, Option.bind_some, if_neg h, x_has isW3 hR, Option.bind_some, if_neg h2, if_neg h3, X_trial, Option.bind_some, W_cls isW18, if_pos rfl, e0, Option.bind_some]
    exact e1
  · unfold f_X9_meet
    rw [M_cls, if_pos rfl, m_isChild, Option.bind_some, bw79 hB, if_neg h, m_isChild, Option.bind_some, bw79 hB, if_neg h2, if_neg h3, sd_st, Option.bind_some]
    exact e2
