/-! ===== text: the class's lines ===== -/
def Fx (d D : Dt) : Prop := (∀ a, a ≠ 1 → a ≠ 33 → D.1 a = d.1 a) ∧ D.1 1 1 = d.1 1 1 ∧ D.1 33 1 = d.1 33 1
theorem Fx.rf {d : Dt} : Fx d d := ⟨fun _ _ _ => rfl, rfl, rfl⟩
theorem Fx.tr {d d' d'' : Dt} (h : Fx d d') (h' : Fx d' d'') : Fx d d'' := ⟨fun a x y => (h'.1 a x y).trans (h.1 a x y), h'.2.1.trans h.2.1, h'.2.2.trans h.2.2⟩
theorem Fx.ft {d D : Dt} (h : Ft d D) : Fx d D := ⟨fun a h1 _ => h.1 a h1, h.2, by rw [h.1 33 (by decide)]⟩
def Fy (d D : Dt) : Prop := (∀ a, a ≠ 1 → (a < 18 ∨ 33 < a) → D.1 a = d.1 a) ∧ D.1 1 1 = d.1 1 1
theorem Fy.rf {d : Dt} : Fy d d := ⟨fun _ _ _ => rfl, rfl⟩
theorem Fy.tr {d d' d'' : Dt} (h : Fy d d') (h' : Fy d' d'') : Fy d d'' := ⟨fun a x y => (h'.1 a x y).trans (h.1 a x y), h'.2.trans h.2⟩
theorem Fy.fx {d D : Dt} (h : Fx d D) : Fy d D := ⟨fun a h1 h2 => h.1 a h1 (by omega), h.2.1⟩
theorem Fy.pi {d : Dt} {q k : Nat} {v : Int32} (h : 18 ≤ q ∧ q ≤ 33) : Fy d (pI d q k v) := ⟨fun a _ h2 => pI_ne (by omega), by rw [pI_ne (by omega)]⟩
theorem Fy.bw {d D : Dt} (h : Bw 18 d D) : Fy d D := ⟨fun a _ h2 => h.1 a (by omega), by rw [h.1 1 (by omega)]⟩
theorem TpX.mvy {b : Nat → Nat} {n : Nat} {d D : Dt} (h : TpX b n d) (f : Fy d D) : TpX b n D := ⟨h.1, fun i hi => ⟨(h.2.1 i hi).1, by rw [f.1 2 (by omega) (by omega)]; exact (h.2.1 i hi).2⟩, f.2.trans h.2.2⟩
theorem CT.mv {b : Nat → Nat} {n p : Nat} {d D : Dt} (h : CT b n d p) (e : D.1 1 = d.1 1) : CT b n D p := by
  unfold CT at *
  rw [e]
  exact h
def XF (D : Dt) (c q : Nat) : Prop := D.1 33 2 = nI c ∧ D.1 33 3 = nI q ∧ 1 ≤ c ∧ c ≤ 5
theorem x_fail {d : Dt} {c q : Nat} (h3 : d.1 1 3 = nI q) (hc : 1 ≤ c ∧ c ≤ 5) : ∃ D, f_X3_fail L0 d 33 (nI c) = some (0, D) ∧ Fx d D ∧ D.1 1 = d.1 1 ∧ XF D c q := by
  unfold f_X3_fail
  rw [Rd_cls, if_pos rfl, Rd_t, Option.bind_some, T_cls, if_pos rfl, pI_ne (by omega)]
  exact ⟨_, rfl, ⟨fun a _ h => by rw [pI_ne h, pI_ne h], by rw [pI_ne (by omega), pI_ne (by omega)], by rw [pk (by decide), pk (by decide)]⟩, by rw [pI_ne (by omega), pI_ne (by omega)], by rw [pk (by decide), ps], by rw [ps]; exact h3, hc.1, hc.2⟩
theorem bS : ∀ M, M < 256 → ∀ s, s < 4 → ((nI (M / 16) &&& ((1 : Int32) <<< (nI s &&& 31))) = 0 ↔ M.testBit (s + 4) = false) ∧ (nI (M / 16) ||| ((1 : Int32) <<< (nI s &&& 31))) = nI ((M ||| 2 ^ (s + 4)) / 16) ∧ (((nI M >>> (nI (s + 4) &&& 31)) &&& (1 : Int32)) = 0 ↔ M.testBit (s + 4) = false) := by decide +kernel
theorem bO : ∀ M, M < 256 → ∀ k, k < 8 → (nI M ||| ((1 : Int32) <<< (nI k &&& 31))) = nI (M ||| 2 ^ k) := by decide +kernel
theorem bD : ∀ M, M < 256 → ∀ k, k < 4 → (M ||| 2 ^ k) / 16 = M / 16 := by decide +kernel
theorem x_nameOf : ∀ i, i < 8 → f_X3_nameOf (nI i) = i := by decide +kernel
section XLN
variable {b : Nat → Nat} {n : Nat}
theorem x_fat {d : Dt} {p : Nat} (h : CT b n d p) : ∃ D, f_X3_failAtToken L0 d 33 = some (0, D) ∧ Fx d D ∧ D.1 1 = d.1 1 ∧ XF D (if tK b n p = 1 then 1 else 2) (tS b n p) := by
  have hk := tK_le (b := b) (n := n) (p := p)
  unfold f_X3_failAtToken
  rw [Rd_t, Option.bind_some, T_cls, if_pos rfl, h.1, Rd_cls]
  by_cases h1 : tK b n p = 1
  · obtain ⟨D, e, g⟩ := x_fail (c := 1) h.2.1 (by omega)
    rw [if_pos (show nI (tK b n p) = 1 by rw [h1]; rfl), if_pos rfl, show f_X3_fail L0 d 33 (1 : Int32) = _ from e, Option.bind_some, if_pos (Or.inl rfl), if_pos h1]
    exact ⟨D, rfl, g⟩
  · obtain ⟨D, e, g⟩ := x_fail (c := 2) h.2.1 (by omega)
    rw [if_neg (show ¬ nI (tK b n p) = 1 from fun q => h1 (nI_inj (b := 1) (by omega) (by omega) q)), if_pos rfl, show f_X3_fail L0 d 33 (2 : Int32) = _ from e, Option.bind_some, if_pos (Or.inl rfl), if_neg h1]
    exact ⟨D, rfl, g⟩
theorem x_rn {d : Dt} {q lo hi : Nat} (hX : TpX b n d) (h5 : d.1 1 5 = nI q) (hq : q ≤ n) (hlo : lo < 100) (hhi : hi < 100) : ∃ D, f_X3_readNumber L0 d 33 (nI lo) (nI hi) = some (if cN b n lo hi q = 0 then 1 else 0, D) ∧ Fx d D ∧ CT b n D q ∧ (cN b n lo hi q = 0 → D.1 33 = d.1 33) ∧ (¬ cN b n lo hi q = 0 → XF D (cN b n lo hi q) (tS b n q)) := by
  have hk := tK_le (b := b) (n := n) (p := q)
  obtain ⟨D, e, F, hC⟩ := x_tok hX h5 hq
  unfold f_X3_readNumber
  rw [Rd_t, Option.bind_some, T_cls, if_pos rfl, e, Option.bind_some, hC.1, Rd_cls]
  by_cases h3 : tK b n q = 3
  · have h1 : ¬ tK b n q = 1 := by omega
    rw [if_pos (show nI (tK b n q) = 3 by rw [h3]; rfl), hC.2.2.2 h3]
    have hv99 := tV_le h3
    by_cases hv : lo ≤ tV b n q ∧ tV b n q ≤ hi
    · have hc : cN b n lo hi q = 0 := by unfold cN; rw [if_neg h1, if_pos h3, if_pos hv]
      rw [hc, if_neg ((wi_iff (a := lo) (b := hi) (by omega) (by omega)).mpr ⟨_, hv.1, hv.2, rfl⟩), if_pos rfl]
      exact ⟨D, rfl, Fx.ft F, hC, fun _ => F.1 33 (by decide), fun z => absurd rfl z⟩
    · have hc : cN b n lo hi q = 3 := by unfold cN; rw [if_neg h1, if_pos h3, if_neg hv]
      have hw : f_X8_within (nI (tV b n q)) (nI lo) (nI hi) = 0 := Decidable.byContradiction (fun h => by
        obtain ⟨m, a, c, em⟩ := (wi_iff (a := lo) (b := hi) (by omega) (by omega)).mp h
        have := nI_inj (by omega) (by omega) em
        omega)
      obtain ⟨D', e', g1, g2, g3⟩ := x_fail (d := D) (c := 3) hC.2.1 (by omega)
      rw [hc, if_pos hw, if_pos rfl, show f_X3_fail L0 D 33 (3 : Int32) = _ from e', Option.bind_some, if_pos rfl, if_neg (show ¬ (3 : Nat) = 0 by decide)]
      exact ⟨D', rfl, (Fx.ft F).tr g1, hC.mv g2, fun z => absurd z (by decide), fun _ => g3⟩
  · obtain ⟨D', e', g1, g2, g3⟩ := x_fat hC
    have hc : cN b n lo hi q = if tK b n q = 1 then 1 else 2 := by unfold cN; rw [if_neg h3]
    have hc0 : ¬ (if tK b n q = 1 then 1 else 2) = 0 := by split <;> omega
    rw [hc, if_neg (show ¬ nI (tK b n q) = 3 from fun z => h3 (nI_inj (b := 3) (by omega) (by omega) z)), if_pos rfl, e', Option.bind_some, if_pos (Or.inl rfl), if_neg hc0]
    exact ⟨D', rfl, (Fx.ft F).tr g1, hC.mv g2, fun z => absurd z hc0, fun _ => g3⟩
theorem x_stop {d : Dt} {q : Nat} (hX : TpX b n d) (h5 : d.1 1 5 = nI q) (hq : q ≤ n) : ∃ D, f_X3_readStop L0 d 33 = some (if cS b n q = 0 then 1 else 0, D) ∧ Fx d D ∧ CT b n D q ∧ (cS b n q = 0 → D.1 33 = d.1 33) ∧ (¬ cS b n q = 0 → XF D (cS b n q) (tS b n q)) := by
  have hk := tK_le (b := b) (n := n) (p := q)
  obtain ⟨D, e, F, hC⟩ := x_tok hX h5 hq
  unfold f_X3_readStop
  rw [Rd_t, Option.bind_some, T_cls, if_pos rfl, e, Option.bind_some, hC.1, Rd_cls]
  by_cases h4 : tK b n q = 4
  · have hc : cS b n q = 0 := by unfold cS; rw [if_neg (by omega), if_pos h4]
    rw [hc, if_pos (show nI (tK b n q) = 4 by rw [h4]; rfl), if_pos rfl]
    exact ⟨D, rfl, Fx.ft F, hC, fun _ => F.1 33 (by decide), fun z => absurd rfl z⟩
  · obtain ⟨D', e', g1, g2, g3⟩ := x_fat hC
    have hc : cS b n q = if tK b n q = 1 then 1 else 2 := by unfold cS; rw [if_neg h4]
    have hc0 : ¬ (if tK b n q = 1 then 1 else 2) = 0 := by split <;> omega
    rw [hc, if_neg (show ¬ nI (tK b n q) = 4 from fun z => h4 (nI_inj (b := 4) (by omega) (by omega) z)), if_pos rfl, e', Option.bind_some, if_pos rfl, if_neg hc0]
    exact ⟨D', rfl, (Fx.ft F).tr g1, hC.mv g2, fun z => absurd z hc0, fun _ => g3⟩
/-! names -/
theorem x_nl {d : Dt} {s k : Nat} {cs : List Nat} (hX : TpX b n d) (h3 : d.1 1 3 = nI s) (hs : s + cs.length ≤ n) (hl : sLen k = some (nI cs.length)) (hc : ∀ i, i < cs.length → sCh k (nI i) = some (nI (cs.getD i 0)) ∧ cs.getD i 0 < 128) : ∀ f i, i ≤ cs.length → cs.length - i < f → ∃ z, f_X6_isNamed_L28 L0 d 1 k f (nI i) = some z ∧ (z = 0 ∨ z = 1) ∧ (z = 1 ↔ ∀ j, i ≤ j → j < cs.length → b (s + j) = cs.getD j 0) := by
  have hn := hX.1
  intro f
  induction f with
  | zero => intro i h1 h2; omega
  | succ f ih =>
    intro i h1 h2
    unfold f_X6_isNamed_L28
    rw [hl, Option.bind_some]
    by_cases hi : i < cs.length
    · obtain ⟨hb, hcc⟩ := hX.2.1 (s + i) (by omega)
      obtain ⟨c1, c2⟩ := hc i hi
      rw [if_neg (nI_ge hi (by omega)), T_by, Option.bind_some, T_cls, if_pos rfl, h3, nI_add, T_ok (by omega), if_pos rfl, c1, Option.bind_some, nI_clamp (by omega), hcc]
      by_cases e : b (s + i) = cs.getD i 0
      · rw [if_pos (by rw [e]), nI_1]
        obtain ⟨z, a1, a2, a3⟩ := ih (i + 1) (by omega) (by omega)
        refine ⟨z, a1, a2, a3.trans ⟨fun h j x y => ?_, fun h j x y => h j (by omega) y⟩⟩
        by_cases ej : j = i
        · rw [ej]; exact e
        · exact h j (by omega) y
      · rw [if_neg (fun q => e (nI_inj (by omega) (by omega) q))]
        exact ⟨0, rfl, Or.inl rfl, fun h => absurd h (by decide), fun h => absurd (h i (by omega) hi) e⟩
    · rw [if_pos (nI_le (by omega) (by omega))]
      exact ⟨1, rfl, Or.inr rfl, fun _ j x y => absurd y (by omega), fun _ => rfl⟩
theorem x_nm1 {d : Dt} {s e k : Nat} {cs : List Nat} (hX : TpX b n d) (h2 : d.1 1 2 = 2) (h3 : d.1 1 3 = nI s) (h5 : d.1 1 5 = nI e) (hse : s ≤ e) (he : e ≤ n) (hl : sLen k = some (nI cs.length)) (hL : cs.length < 10) (hc : ∀ i, i < cs.length → sCh k (nI i) = some (nI (cs.getD i 0)) ∧ cs.getD i 0 < 128) (hw : wd b s e k = true ↔ (e - s = cs.length ∧ ∀ j, j < cs.length → b (s + j) = cs.getD j 0)) : f_X6_isNamed L0 d 1 k = some (if wd b s e k = true then 1 else 0) := by
  have hn := hX.1
  unfold f_X6_isNamed
  rw [T_cls, if_pos rfl, h2, if_pos rfl, hl, Option.bind_some, h5, h3, nI_sub hse]
  by_cases hle : e - s = cs.length
  · obtain ⟨z, a1, a2, a3⟩ := x_nl hX h3 (by omega) hl hc FU 0 (by omega) (by unfold FU; omega)
    rw [if_pos (by rw [hle]), show f_X6_isNamed_L28 L0 d 1 k FU (0 : Int32) = _ from a1]
    by_cases hw' : wd b s e k = true
    · rw [if_pos hw', a3.mpr (fun j _ y => (hw.mp hw').2 j y)]
    · rw [if_neg hw']
      rcases a2 with a2 | a2
      · rw [a2]
      · exact absurd (hw.mpr ⟨hle, fun j y => a3.mp a2 j (by omega) y⟩) hw'
  · rw [if_neg (fun q => hle (nI_inj (by omega) (by omega) q)), if_neg (fun q => hle (hw.mp q).1)]
theorem wd_0 {s e : Nat} : wd b s e 0 = true ↔ (e - s = ([115, 112, 114, 105, 110, 103] : List Nat).length ∧ ∀ j, j < ([115, 112, 114, 105, 110, 103] : List Nat).length → b (s + j) = ([115, 112, 114, 105, 110, 103] : List Nat).getD j 0) := by
  show (nA b s e 6 115 112 114 105 && nE2 b s 110 103) = true ↔ _
  unfold nA nE2
  rw [Bool.and_eq_true, decide_eq_true_eq, decide_eq_true_eq]
  constructor
  · rintro ⟨⟨h, h0, h1, h2, h3⟩, h4, h5⟩
    refine ⟨h, fun j hj => ?_⟩
    have hj : j < 6 := hj
    rcases (show j = 0 ∨ j = 1 ∨ j = 2 ∨ j = 3 ∨ j = 4 ∨ j = 5 by omega) with rfl | rfl | rfl | rfl | rfl | rfl
    · exact h0
    · exact h1
    · exact h2
    · exact h3
    · exact h4
    · exact h5
  · rintro ⟨h, hj⟩
    exact ⟨⟨h, hj 0 (by decide), hj 1 (by decide), hj 2 (by decide), hj 3 (by decide)⟩, hj 4 (by decide), hj 5 (by decide)⟩
theorem wd_1 {s e : Nat} : wd b s e 1 = true ↔ (e - s = ([115, 117, 109, 109, 101, 114] : List Nat).length ∧ ∀ j, j < ([115, 117, 109, 109, 101, 114] : List Nat).length → b (s + j) = ([115, 117, 109, 109, 101, 114] : List Nat).getD j 0) := by
  show (nA b s e 6 115 117 109 109 && nE2 b s 101 114) = true ↔ _
  unfold nA nE2
  rw [Bool.and_eq_true, decide_eq_true_eq, decide_eq_true_eq]
  constructor
  · rintro ⟨⟨h, h0, h1, h2, h3⟩, h4, h5⟩
    refine ⟨h, fun j hj => ?_⟩
    have hj : j < 6 := hj
    rcases (show j = 0 ∨ j = 1 ∨ j = 2 ∨ j = 3 ∨ j = 4 ∨ j = 5 by omega) with rfl | rfl | rfl | rfl | rfl | rfl
    · exact h0
    · exact h1
    · exact h2
    · exact h3
    · exact h4
    · exact h5
  · rintro ⟨h, hj⟩
    exact ⟨⟨h, hj 0 (by decide), hj 1 (by decide), hj 2 (by decide), hj 3 (by decide)⟩, hj 4 (by decide), hj 5 (by decide)⟩
theorem wd_2 {s e : Nat} : wd b s e 2 = true ↔ (e - s = ([97, 117, 116, 117, 109, 110] : List Nat).length ∧ ∀ j, j < ([97, 117, 116, 117, 109, 110] : List Nat).length → b (s + j) = ([97, 117, 116, 117, 109, 110] : List Nat).getD j 0) := by
  show (nA b s e 6 97 117 116 117 && nE2 b s 109 110) = true ↔ _
  unfold nA nE2
  rw [Bool.and_eq_true, decide_eq_true_eq, decide_eq_true_eq]
  constructor
  · rintro ⟨⟨h, h0, h1, h2, h3⟩, h4, h5⟩
    refine ⟨h, fun j hj => ?_⟩
    have hj : j < 6 := hj
    rcases (show j = 0 ∨ j = 1 ∨ j = 2 ∨ j = 3 ∨ j = 4 ∨ j = 5 by omega) with rfl | rfl | rfl | rfl | rfl | rfl
    · exact h0
    · exact h1
    · exact h2
    · exact h3
    · exact h4
    · exact h5
  · rintro ⟨h, hj⟩
    exact ⟨⟨h, hj 0 (by decide), hj 1 (by decide), hj 2 (by decide), hj 3 (by decide)⟩, hj 4 (by decide), hj 5 (by decide)⟩
theorem wd_3 {s e : Nat} : wd b s e 3 = true ↔ (e - s = ([119, 105, 110, 116, 101, 114] : List Nat).length ∧ ∀ j, j < ([119, 105, 110, 116, 101, 114] : List Nat).length → b (s + j) = ([119, 105, 110, 116, 101, 114] : List Nat).getD j 0) := by
  show (nA b s e 6 119 105 110 116 && nE2 b s 101 114) = true ↔ _
  unfold nA nE2
  rw [Bool.and_eq_true, decide_eq_true_eq, decide_eq_true_eq]
  constructor
  · rintro ⟨⟨h, h0, h1, h2, h3⟩, h4, h5⟩
    refine ⟨h, fun j hj => ?_⟩
    have hj : j < 6 := hj
    rcases (show j = 0 ∨ j = 1 ∨ j = 2 ∨ j = 3 ∨ j = 4 ∨ j = 5 by omega) with rfl | rfl | rfl | rfl | rfl | rfl
    · exact h0
    · exact h1
    · exact h2
    · exact h3
    · exact h4
    · exact h5
  · rintro ⟨h, hj⟩
    exact ⟨⟨h, hj 0 (by decide), hj 1 (by decide), hj 2 (by decide), hj 3 (by decide)⟩, hj 4 (by decide), hj 5 (by decide)⟩
theorem wd_4 {s e : Nat} : wd b s e 4 = true ↔ (e - s = ([112, 108, 97, 105, 110] : List Nat).length ∧ ∀ j, j < ([112, 108, 97, 105, 110] : List Nat).length → b (s + j) = ([112, 108, 97, 105, 110] : List Nat).getD j 0) := by
  show (nA b s e 5 112 108 97 105 && nE1 b s 110) = true ↔ _
  unfold nA nE1
  rw [Bool.and_eq_true, decide_eq_true_eq, decide_eq_true_eq]
  constructor
  · rintro ⟨⟨h, h0, h1, h2, h3⟩, h4⟩
    refine ⟨h, fun j hj => ?_⟩
    have hj : j < 5 := hj
    rcases (show j = 0 ∨ j = 1 ∨ j = 2 ∨ j = 3 ∨ j = 4 by omega) with rfl | rfl | rfl | rfl | rfl
    · exact h0
    · exact h1
    · exact h2
    · exact h3
    · exact h4
  · rintro ⟨h, hj⟩
    exact ⟨⟨h, hj 0 (by decide), hj 1 (by decide), hj 2 (by decide), hj 3 (by decide)⟩, hj 4 (by decide)⟩
theorem wd_5 {s e : Nat} : wd b s e 5 = true ↔ (e - s = ([113, 117, 105, 99, 107] : List Nat).length ∧ ∀ j, j < ([113, 117, 105, 99, 107] : List Nat).length → b (s + j) = ([113, 117, 105, 99, 107] : List Nat).getD j 0) := by
  show (nA b s e 5 113 117 105 99 && nE1 b s 107) = true ↔ _
  unfold nA nE1
  rw [Bool.and_eq_true, decide_eq_true_eq, decide_eq_true_eq]
  constructor
  · rintro ⟨⟨h, h0, h1, h2, h3⟩, h4⟩
    refine ⟨h, fun j hj => ?_⟩
    have hj : j < 5 := hj
    rcases (show j = 0 ∨ j = 1 ∨ j = 2 ∨ j = 3 ∨ j = 4 by omega) with rfl | rfl | rfl | rfl | rfl
    · exact h0
    · exact h1
    · exact h2
    · exact h3
    · exact h4
  · rintro ⟨h, hj⟩
    exact ⟨⟨h, hj 0 (by decide), hj 1 (by decide), hj 2 (by decide), hj 3 (by decide)⟩, hj 4 (by decide)⟩
theorem wd_6 {s e : Nat} : wd b s e 6 = true ↔ (e - s = ([115, 108, 111, 119] : List Nat).length ∧ ∀ j, j < ([115, 108, 111, 119] : List Nat).length → b (s + j) = ([115, 108, 111, 119] : List Nat).getD j 0) := by
  show (nA b s e 4 115 108 111 119) = true ↔ _
  unfold nA
  rw [decide_eq_true_eq]
  constructor
  · rintro ⟨h, h0, h1, h2, h3⟩
    refine ⟨h, fun j hj => ?_⟩
    have hj : j < 4 := hj
    rcases (show j = 0 ∨ j = 1 ∨ j = 2 ∨ j = 3 by omega) with rfl | rfl | rfl | rfl
    · exact h0
    · exact h1
    · exact h2
    · exact h3
  · rintro ⟨h, hj⟩
    exact ⟨h, hj 0 (by decide), hj 1 (by decide), hj 2 (by decide), hj 3 (by decide)⟩
theorem wd_7 {s e : Nat} : wd b s e 7 = true ↔ (e - s = ([111, 114, 112, 104, 97, 110] : List Nat).length ∧ ∀ j, j < ([111, 114, 112, 104, 97, 110] : List Nat).length → b (s + j) = ([111, 114, 112, 104, 97, 110] : List Nat).getD j 0) := by
  show (nA b s e 6 111 114 112 104 && nE2 b s 97 110) = true ↔ _
  unfold nA nE2
  rw [Bool.and_eq_true, decide_eq_true_eq, decide_eq_true_eq]
  constructor
  · rintro ⟨⟨h, h0, h1, h2, h3⟩, h4, h5⟩
    refine ⟨h, fun j hj => ?_⟩
    have hj : j < 6 := hj
    rcases (show j = 0 ∨ j = 1 ∨ j = 2 ∨ j = 3 ∨ j = 4 ∨ j = 5 by omega) with rfl | rfl | rfl | rfl | rfl | rfl
    · exact h0
    · exact h1
    · exact h2
    · exact h3
    · exact h4
    · exact h5
  · rintro ⟨h, hj⟩
    exact ⟨⟨h, hj 0 (by decide), hj 1 (by decide), hj 2 (by decide), hj 3 (by decide)⟩, hj 4 (by decide), hj 5 (by decide)⟩
theorem x_named {d : Dt} {p k : Nat} (hX : TpX b n d) (hC : CT b n d p) (hp : p ≤ n) (hk : k < 8) : f_X6_isNamed L0 d 1 k = some (if wdp b n p k = true then 1 else 0) := by
  have hn := hX.1
  have h4 := tK_le (b := b) (n := n) (p := p)
  have hE := tE_le (b := b) hp
  by_cases h2 : tK b n p = 2
  · have ew : wdp b n p k = wd b (tS b n p) (tE b n p) k := by unfold wdp; rw [decide_eq_true h2]; rfl
    have g2 : d.1 1 2 = 2 := by rw [hC.1, h2]; rfl
    rw [ew]
    rcases (show k = 0 ∨ k = 1 ∨ k = 2 ∨ k = 3 ∨ k = 4 ∨ k = 5 ∨ k = 6 ∨ k = 7 by omega) with rfl | rfl | rfl | rfl | rfl | rfl | rfl | rfl
    · exact x_nm1 hX g2 hC.2.1 hC.2.2.1 hE.1 hE.2 (by decide +kernel) (by decide) (by decide +kernel) wd_0
    · exact x_nm1 hX g2 hC.2.1 hC.2.2.1 hE.1 hE.2 (by decide +kernel) (by decide) (by decide +kernel) wd_1
    · exact x_nm1 hX g2 hC.2.1 hC.2.2.1 hE.1 hE.2 (by decide +kernel) (by decide) (by decide +kernel) wd_2
    · exact x_nm1 hX g2 hC.2.1 hC.2.2.1 hE.1 hE.2 (by decide +kernel) (by decide) (by decide +kernel) wd_3
    · exact x_nm1 hX g2 hC.2.1 hC.2.2.1 hE.1 hE.2 (by decide +kernel) (by decide) (by decide +kernel) wd_4
    · exact x_nm1 hX g2 hC.2.1 hC.2.2.1 hE.1 hE.2 (by decide +kernel) (by decide) (by decide +kernel) wd_5
    · exact x_nm1 hX g2 hC.2.1 hC.2.2.1 hE.1 hE.2 (by decide +kernel) (by decide) (by decide +kernel) wd_6
    · exact x_nm1 hX g2 hC.2.1 hC.2.2.1 hE.1 hE.2 (by decide +kernel) (by decide) (by decide +kernel) wd_7
  · have ew : wdp b n p k = false := by unfold wdp; rw [decide_eq_false h2]; rfl
    unfold f_X6_isNamed
    rw [T_cls, if_pos rfl, hC.1, if_neg (show ¬ nI (tK b n p) = 2 from fun q => h2 (nI_inj (b := 2) (by omega) (by omega) q)), ew, if_neg (by decide)]
end XLN
