/-! ===== what was seen: kinds, seasons, gifts ===== -/
def al (p : Nat → Bool) : Nat → Nat → Bool
  | 0, _ => true
  | k + 1, c => p c && al p k (c + 1)
theorem al_iff {p : Nat → Bool} : ∀ (k c : Nat), al p k c = true ↔ ∀ i, c ≤ i → i < c + k → p i = true := by
  intro k
  induction k with
  | zero => intro c; exact ⟨fun _ i h1 h2 => by omega, fun _ => rfl⟩
  | succ k ih =>
    intro c
    show (p c && al p k (c + 1)) = true ↔ _
    rw [Bool.and_eq_true, ih]
    constructor
    · rintro ⟨h1, h2⟩ i a b
      by_cases e : i = c
      · subst e; exact h1
      · exact h2 i (by omega) (by omega)
    · intro h
      exact ⟨h c (by omega) (by omega), fun i a b => h i (by omega) (by omega)⟩
theorem al_succ {p : Nat → Bool} {n c : Nat} (h : c < n) : al p (n - c) c = (p c && al p (n - (c + 1)) (c + 1)) := by
  rw [show n - c = (n - (c + 1)) + 1 by omega]
  rfl
theorem wkN_succ' (r : Rw) : ∀ n, wkN (n + 1) r = wk 0 (wkN n r) := by
  intro n
  induction n generalizing r with
  | zero => rfl
  | succ n ih => exact ih (wk 0 r)
theorem wkN_hi {r : Rw} (h5 : nk r ≤ 5) {j : Nat} (hj : 41 ≤ j) : ∀ n, wkN n r j = r j := by
  intro n
  induction n with
  | zero => rfl
  | succ n ih => rw [wkN_succ', wk_hi (by rw [wkN_nk h5]; exact h5) hj]; exact ih
theorem wkN_ns {r : Rw} (h5 : nk r ≤ 5) (n : Nat) : ns (wkN n r) = ns r := by unfold ns; rw [wkN_hi h5 (by omega)]
def bh (r : Rw) (i : Nat) : Nat := (r (42 + 3 * i)).toNatClampNeg
def ch (r : Rw) (i : Nat) : Nat := (r (42 + 3 * i + 1)).toNatClampNeg
theorem bh_wk {r : Rw} (h5 : nk r ≤ 5) (n i : Nat) : bh (wkN n r) i = bh r i := by unfold bh; rw [wkN_hi h5 (by omega)]
theorem ch_wk {r : Rw} (h5 : nk r ≤ 5) (n i : Nat) : ch (wkN n r) i = ch r i := by unfold ch; rw [wkN_hi h5 (by omega)]
theorem Good.nt {r : Rw} (hG : Good r) {i : Nat} (hi : i < ns r) : r (42 + 3 * i) = nI (bh r i) ∧ bh r i ≤ 30 ∧ r (42 + 3 * i + 1) = nI (ch r i) ∧ ch r i < nk r := by
  have h5 := hG.1.2
  obtain ⟨⟨x, hx, e1⟩, ⟨c, hc, e2⟩, -⟩ := hG.2.2.2.2.2.2.2 i hi
  unfold bh ch
  rw [e1, e2, nI_clamp (by omega), nI_clamp (by omega)]
  exact ⟨rfl, hx, rfl, hc⟩
def pS (R : Rw) (v i : Nat) : Bool := decide (R (42 + 3 * i) = nI v → R (12 + 5 * ch R i + 3) = R (42 + 3 * i + 2))
section NX
variable {d : Dt} {w : Nat} {R : Rw}
theorem RW.n9 (hR : RW d w R) (hG : Good R) : d.1 w 9 = nI (ns R) := hR.1.2.2.2.2.trans hG.2.2.2.2.1.1
theorem x_isAsSeen_L (hw : isW w) (hR : RW d w R) (hG : Good R) {v : Nat} (hv : v < 1000) : ∀ (n c : Nat), c ≤ ns R → ns R - c < n → f_X7_isAsSeen_L2 L0 d w (nI v) n (nI c) = some (if al (pS R v) (ns R - c) c = true then 1 else 0) := by
  have h5 := hG.1.2
  have h6 := hG.2.2.2.2.1.2
  intro n
  induction n with
  | zero => intro c h1 h2; omega
  | succ n ih =>
    intro c h1 h2
    unfold f_X7_isAsSeen_L2
    rw [W_cls hw, if_pos rfl, hR.n9 hG]
    by_cases hc : c < ns R
    · obtain ⟨n1, n2, n3, n4⟩ := hG.nt hc
      obtain ⟨q1, q2, q3⟩ := hR.2.2.2 c hc
      rw [if_neg (fun q => by have := (nI_leI (a := ns R) (b := c) (by omega) (by omega)).mp q; omega), W_sb hw, Option.bind_some, W_ok3 hw (by omega), if_pos rfl, nI_clamp (by omega), q1, nI_1, al_succ hc]
      have ihc := ih (c + 1) (by omega) (by omega)
      by_cases hb : R (42 + 3 * c) = nI v
      · have hhas : ¬ f_X8_within (nI (ch R c)) 0 (R 37 - 1) = 0 := by rw [hG.1.1]; exact (has_iff (by omega)).mpr ⟨_, n4, rfl⟩
        rw [if_pos hb, W_sc hw, Option.bind_some, W_ok4 hw (by omega), if_pos rfl, q2, n3, x_has hw hR, Option.bind_some, if_neg hhas, W_ch hw, Option.bind_some, W_rac hw (by omega), Option.bind_some, W_ccl hw (by omega), if_pos rfl, W_sk hw, Option.bind_some, W_ok5 hw (by omega), if_pos rfl, q3, (hR.2.2.1 _ n4).2.2.1]
        by_cases hs : R (12 + 5 * ch R c + 3) = R (42 + 3 * c + 2)
        · have : pS R v c = true := by unfold pS; exact decide_eq_true (fun _ => hs)
          rw [if_pos hs, this, Bool.true_and]
          exact ihc
        · have : pS R v c = false := by unfold pS; exact decide_eq_false (fun q => hs (q hb))
          rw [if_neg hs, this, Bool.false_and, if_neg (by decide)]
      · have : pS R v c = true := by unfold pS; exact decide_eq_true (fun q => absurd q hb)
        rw [if_neg hb, this, Bool.true_and]
        exact ihc
    · rw [if_pos ((nI_leI (by omega) (by omega)).mpr (by omega)), show ns R - c = 0 by omega]
      rfl
theorem x_isAsSeen (hw : isW w) (hR : RW d w R) (hG : Good R) {v : Nat} (hv : v < 1000) : f_X7_isAsSeen L0 d w (nI v) = some (if al (pS R v) (ns R) 0 = true then 1 else 0) :=
  x_isAsSeen_L hw hR hG hv FU 0 (by omega) (by have := hG.2.2.2.2.1.2; unfold FU; omega)
def laN (R : Rw) (k c m : Nat) : Nat := fo (fun m i => Nat.max m (bh R i + 1)) k c m
theorem la_b {R : Rw} : ∀ (k c m : Nat), (∀ i, c ≤ i → i < c + k → bh R i ≤ 30) → m ≤ 31 → m ≤ laN R k c m ∧ laN R k c m ≤ 31 ∧ ∀ i, c ≤ i → i < c + k → bh R i < laN R k c m := by
  intro k
  induction k with
  | zero => intro c m _ hm; exact ⟨Nat.le_refl _, hm, fun i a b => by omega⟩
  | succ k ih =>
    intro c m hb hm
    have hc := hb c (by omega) (by omega)
    have hm' : Nat.max m (bh R c + 1) ≤ 31 := Nat.max_le.mpr ⟨hm, by omega⟩
    obtain ⟨a1, a2, a3⟩ := ih (c + 1) (Nat.max m (bh R c + 1)) (fun i a b => hb i (by omega) (by omega)) hm'
    have b1 : m ≤ Nat.max m (bh R c + 1) := Nat.le_max_left _ _
    have b2 : bh R c + 1 ≤ Nat.max m (bh R c + 1) := Nat.le_max_right _ _
    show m ≤ laN R k (c + 1) (Nat.max m (bh R c + 1)) ∧ laN R k (c + 1) (Nat.max m (bh R c + 1)) ≤ 31 ∧ ∀ i, c ≤ i → i < c + (k + 1) → bh R i < laN R k (c + 1) (Nat.max m (bh R c + 1))
    refine ⟨by omega, a2, fun i a b => ?_⟩
    by_cases e : i = c
    · subst e; omega
    · exact a3 i (by omega) (by omega)
theorem jmax_m : ∀ m, m ≤ 31 → ∀ b, b ≤ 30 → jmax (nI m - 1) (nI b) = nI (Nat.max m (b + 1)) - 1 := by decide +kernel
theorem lt_m : ∀ m, m ≤ 31 → ∀ v, v ≤ 31 → ((nI m - 1 < nI v) ↔ m ≤ v) := by decide +kernel
theorem x_lastSeen_L (hw : isW w) (hR : RW d w R) (hG : Good R) : ∀ (n c m : Nat), c ≤ ns R → ns R - c < n → m ≤ 31 → f_X7_lastSeen_L4 L0 d w n (nI m - 1) (nI c) = some (nI (laN R (ns R - c) c m) - 1) := by
  have h6 := hG.2.2.2.2.1.2
  intro n
  induction n with
  | zero => intro c m h1 h2; omega
  | succ n ih =>
    intro c m h1 h2 hm
    unfold f_X7_lastSeen_L4
    rw [W_cls hw, if_pos rfl, hR.n9 hG]
    by_cases hc : c < ns R
    · obtain ⟨n1, n2, n3, n4⟩ := hG.nt hc
      obtain ⟨q1, q2, q3⟩ := hR.2.2.2 c hc
      rw [if_neg (fun q => by have := (nI_leI (a := ns R) (b := c) (by omega) (by omega)).mp q; omega), W_sb hw, Option.bind_some, W_ok3 hw (by omega), if_pos rfl, nI_clamp (by omega), q1, n1, jmax_m m hm _ n2, nI_1, ih (c + 1) _ (by omega) (by omega) (Nat.max_le.mpr ⟨hm, by omega⟩)]
      unfold laN
      rw [fo_succ hc]
    · rw [if_pos ((nI_leI (by omega) (by omega)).mpr (by omega)), show ns R - c = 0 by omega]
      rfl
end NX
def csB (r : Rw) (L v : Nat) : Bool := al (fun u => al (pS (wkN u r) u) (ns r) 0) (L - v) v
theorem x_comes_L {w : Nat} {r : Rw} (hw : isW w) (hG : Good r) {L : Nat} (hL : L ≤ 31) : ∀ (n v : Nat) (d : Dt), v ≤ L → L - v < n → RW d w (wkN v r) → ∃ D, Bw w d D ∧ f_X7_comesAsSeen_L7 L0 w (nI L - 1) n (nI v) d = some (if csB r L v = true then 1 else 0, D) := by
  have h5 := hG.1.2
  intro n
  induction n with
  | zero => intro v d h1 h2; omega
  | succ n ih =>
    intro v d h1 h2 hR
    unfold f_X7_comesAsSeen_L7
    by_cases hv : v < L
    · rw [if_neg (fun q => by have := (lt_m L hL v (by omega)).mp q; omega), W_cls hw, if_pos rfl, x_isAsSeen hw hR (hG.wkN v) (by omega), Option.bind_some, wkN_ns h5]
      have hcs : csB r L v = (al (pS (wkN v r) v) (ns r) 0 && csB r L (v + 1)) := by unfold csB; rw [al_succ hv]
      rw [hcs]
      by_cases ha : al (pS (wkN v r) v) (ns r) 0 = true
      · obtain ⟨d1, e1, hR1, hB1⟩ := x_passOne hw (hG.wkN v) hR
        rw [← wkN_succ'] at hR1
        obtain ⟨D, hD, hq⟩ := ih (v + 1) d1 (by omega) (by omega) hR1
        refine ⟨D, hB1.tr hD, ?_⟩
        rw [if_pos ha, if_neg one_ne, e1, Option.bind_some, nI_1, hq, ha, Bool.true_and]
      · have ha' : al (pS (wkN v r) v) (ns r) 0 = false := Bool.eq_false_iff.mpr ha
        rw [if_neg ha, if_pos rfl, ha', Bool.false_and, if_neg (by decide)]
        exact ⟨d, Bw.rf, rfl⟩
    · have : v = L := by omega
      subst this
      rw [if_pos ((lt_m v hL v (by omega)).mpr (by omega))]
      unfold csB
      rw [Nat.sub_self]
      exact ⟨d, Bw.rf, rfl⟩
def aS (r : Rw) : Bool := al (fun i => decide (wkN (bh r i) r (12 + 5 * ch r i + 3) = r (42 + 3 * i + 2))) (ns r) 0
theorem cs_aS {r : Rw} (hG : Good r) {L : Nat} (h31 : L ≤ 31) (hL : ∀ i, i < ns r → bh r i < L) : csB r L 0 = aS r := by
  have h5 := hG.1.2
  apply Bool.eq_iff_iff.mpr
  unfold csB aS
  rw [al_iff, al_iff]
  constructor
  · intro h i _ hi
    have hi' : i < ns r := by omega
    have h1 := h (bh r i) (by omega) (by have := hL i hi'; omega)
    rw [al_iff] at h1
    have h2 := of_decide_eq_true (h1 i (by omega) (by omega))
    rw [ch_wk h5, wkN_hi h5 (j := 42 + 3 * i) (by omega), wkN_hi h5 (j := 42 + 3 * i + 2) (by omega)] at h2
    exact decide_eq_true (h2 (hG.nt hi').1)
  · intro h u _ hu
    rw [al_iff]
    intro i _ hi
    have hi' : i < ns r := by omega
    have h1 := of_decide_eq_true (h i (by omega) (by omega))
    unfold pS
    rw [ch_wk h5, wkN_hi h5 (j := 42 + 3 * i) (by omega), wkN_hi h5 (j := 42 + 3 * i + 2) (by omega)]
    refine decide_eq_true (fun e => ?_)
    obtain ⟨n1, n2, -, -⟩ := hG.nt hi'
    have eu : bh r i = u := nI_inj (by omega) (by omega) (n1.symm.trans e)
    rw [← eu]
    exact h1
theorem x_comes {w : Nat} {r : Rw} {d : Dt} (hw : isW w) (hG : Good r) (hR : RW d w r) : ∃ D, Bw w d D ∧ f_X7_comesAsSeen L0 d w = some (if aS r = true then 1 else 0, D) := by
  have h6 := hG.2.2.2.2.1.2
  obtain ⟨-, b2, b3⟩ := la_b (R := r) (ns r) 0 0 (fun i _ hi => (hG.nt (by omega)).2.1) (by omega)
  obtain ⟨D, hD, hq⟩ := x_comes_L hw hG b2 FU 0 d (by omega) (by unfold FU; omega) hR
  refine ⟨D, hD, ?_⟩
  unfold f_X7_comesAsSeen f_X7_lastSeen
  rw [W_cls hw, if_pos rfl, show f_X7_lastSeen_L4 L0 d w FU (-1) 0 = _ from x_lastSeen_L hw hR hG FU 0 0 (by omega) (by unfold FU; omega) (by omega), Option.bind_some]
  rw [← cs_aS hG b2 (fun i hi => b3 i (by omega) (by omega))]
  exact hq
/-! the reference's table -/
def Bk (d d' : Dt) : Prop := (∀ a, a ≠ 80 → a ≠ 84 → d'.1 a = d.1 a) ∧ d'.2 = d.2
theorem Bk.rf {d : Dt} : Bk d d := ⟨fun _ _ _ => rfl, rfl⟩
theorem Bk.tr {d d' d'' : Dt} (h : Bk d d') (h' : Bk d' d'') : Bk d d'' := ⟨fun a x y => (h'.1 a x y).trans (h.1 a x y), h'.2.trans h.2⟩
theorem Bn.bk {d d' : Dt} (h : Bn d d') : Bk d d' := ⟨fun a x _ => h.1 a x, h.2⟩
theorem Bk.sc {d d' : Dt} (h : Bk d d') : Sc d d' := by
  have h78 : d'.1 78 = d.1 78 := h.1 78 (by omega) (by omega)
  refine ⟨fun a ha => h.1 a (fun e => ha (e ▸ scr80)) (fun e => ha (e ▸ (by unfold scr; omega))), by rw [h78], by rw [h78], by rw [h78]⟩
def skP (R : Rw) (v e : Nat) (S : Rw) : Rw := fun j => if 5 * v ≤ j ∧ j < 5 * v + e then R (12 + 5 * (j - 5 * v) + 3) else S j
theorem i5 (v e : Nat) : (5 : Int32) * nI v + nI e = nI (5 * v + e) := by
  rw [show (5 : Int32) = nI 5 from rfl, nI_mul, nI_add]
theorem mn37 : okA L0 80 1 (37 : Int32) = true := Mo_now (j := 37) (by omega)
theorem m_so_I {R S : Rw} (hG : Good R) {v : Nat} (hv : v ≤ 30) {k : Int32 → Dt → Option (Int32 × Dt)} : ∀ (f e : Nat) (d : Dt), e ≤ nk R → nk R - e < f → Eq60 (d.1 80) R → d.1 84 = skP R v e S → f_X9_isSoWith_L22 L0 78 (nI v) k f (nI e) d = k (nI (nk R)) (sR d 84 (skP R v (nk R) S)) := by
  have h5 := hG.1.2
  intro f
  induction f with
  | zero => intro e d h1 h2; omega
  | succ f ih =>
    intro e d h1 h2 hE hS
    unfold f_X9_isSoWith_L22
    rw [M_now, Option.bind_some, mn37, if_pos rfl, t37, hE 37 (by omega)]
    by_cases he : e < nk R
    · rw [if_neg (fun q => by have := (m_le hG.1.1 h5 (c := e) (by omega)).mp q; omega), M_skl, Option.bind_some, M_cls, if_pos rfl, show f_X9_of L0 d 78 (nI e) (3 : Int32) = _ from m_ofr (k := 3) hE (by omega) (by omega), Option.bind_some, i5, Mo_skl (by omega), if_pos rfl, nI_1, nI_clamp (by omega), ih (e + 1) _ (by omega) (by omega) (by rw [pI_ne (by omega)]; exact hE) ?_, pI_sR, sR_sR]
      rw [pI_self, hS]
      funext j
      unfold skP
      by_cases c1 : j = 5 * v + e
      · subst c1
        rw [upd_s, if_pos (by omega), show 5 * v + e - 5 * v = e by omega]
      · rw [upd_n c1]
        by_cases c2 : 5 * v ≤ j ∧ j < 5 * v + e
        · rw [if_pos c2, if_pos (by omega)]
        · rw [if_neg c2, if_neg (by omega)]
    · have : e = nk R := by omega
      subst this
      rw [if_pos ((m_le hG.1.1 h5 (c := nk R) (by omega)).mpr (by omega)), ← hS, sR_id]
def Tb (r : Rw) (v : Nat) (S : Rw) : Prop := ∀ u, u < v → ∀ c, c < nk r → S (5 * u + c) = wkN u r (12 + 5 * c + 3)
theorem m_so_O {r : Rw} (hG : Good r) {k : Int32 → Dt → Option (Int32 × Dt)} : ∀ (f v : Nat) (d : Dt), v ≤ 31 → 31 - v < f → Eq60 (d.1 80) (wkN v r) → Tb r v (d.1 84) → ∃ D, Bk d D ∧ Tb r 31 (D.1 84) ∧ f_X9_isSoWith_L13 L0 78 k f (nI v) d = k (nI 31) D := by
  have h5 := hG.1.2
  intro f
  induction f with
  | zero => intro v d h1 h2; omega
  | succ f ih =>
    intro v d h1 h2 hE hT
    unfold f_X9_isSoWith_L13
    by_cases hv : v < 31
    · rw [if_neg (fun q => by have := (nI_ltI (a := 30) (b := v) (by omega) (by omega)).mp q; omega)]
      have hGv := hG.wkN v
      have hnk := wkN_nk h5 v
      rw [show ∀ kk, f_X9_isSoWith_L22 L0 78 (nI v) kk FU 0 d = _ from fun kk => m_so_I (S := d.1 84) hGv (by omega) (k := kk) FU 0 d (by omega) (by unfold FU; omega) hE (by funext j; unfold skP; rw [if_neg (by omega)])]
      obtain ⟨d1, e1, hE1, hB1⟩ := m_wk (d := sR d 84 (skP (wkN v r) v (nk (wkN v r)) (d.1 84))) (r := wkN v r) (by rw [sR_ne (by omega)]; exact hE) hGv 0
      rw [← wkN_succ'] at hE1
      have hB0 : Bk d (sR d 84 (skP (wkN v r) v (nk (wkN v r)) (d.1 84))) := ⟨fun a _ y => sR_ne y, rfl⟩
      have hT1 : Tb r (v + 1) (d1.1 84) := by
        intro u hu c hc
        rw [hB1.1 84 (by omega), sR_self]
        unfold skP
        by_cases e : u = v
        · subst e
          rw [if_pos (by omega), show 5 * u + c - 5 * u = c by omega]
        · rw [if_neg (by omega)]
          exact hT u (by omega) c hc
      obtain ⟨D, hD, hT2, hq⟩ := ih (v + 1) d1 (by omega) (by omega) hE1 hT1
      refine ⟨D, (hB0.tr hB1.bk).tr hD, hT2, ?_⟩
      show (if clsAt L0 78 = some 9 then _ else none) = _
      rw [M_cls, if_pos rfl, e1, Option.bind_some, nI_1, hq]
    · have : v = 31 := by omega
      subst this
      rw [if_pos (by decide)]
      exact ⟨d, Bk.rf, hT, rfl⟩
def pM (S st : Rw) (i : Nat) : Bool := decide (S (5 * bh st i + ch st i) = st (42 + 3 * i + 2))
theorem i42 (n : Nat) : (42 : Int32) + (3 : Int32) * nI n = nI (42 + 3 * n) := by
  rw [show (3 : Int32) = nI 3 from rfl, nI_mul, show (42 : Int32) = nI 42 from rfl, nI_add]
theorem m_so_T {d : Dt} (hG : Good (d.1 79)) : ∀ (f c : Nat) (b : Bool), c ≤ ns (d.1 79) → ns (d.1 79) - c < f → f_X9_isSoWith_L74 L0 d 78 f (if b = true then 1 else 0) (nI c) = some (if (b && al (pM (d.1 84) (d.1 79)) (ns (d.1 79) - c) c) = true then 1 else 0, d) := by
  have h6 := hG.2.2.2.2.1.2
  have h5 := hG.1.2
  intro f
  induction f with
  | zero => intro c b h1 h2; omega
  | succ f ih =>
    intro c b h1 h2
    unfold f_X9_isSoWith_L74
    rw [M_st, Option.bind_some, mo41, if_pos rfl, t41, hG.2.2.2.2.1.1]
    by_cases hc : c < ns (d.1 79)
    · obtain ⟨n1, n2, n3, n4⟩ := hG.nt hc
      have ih0 := ih (c + 1) false (by omega) (by omega)
      have ih1 := ih (c + 1) true (by omega) (by omega)
      rw [if_neg (fun q => by have := (nI_leI (a := ns (d.1 79)) (b := c) (by omega) (by omega)).mp q; omega), al_succ hc, nI_1]
      cases b with
      | false =>
        rw [if_neg (show ¬ false = true by decide), if_pos rfl]
        rw [if_neg (show ¬ false = true by decide), Bool.false_and, if_neg (show ¬ false = true by decide)] at ih0
        rw [ih0, Bool.false_and, if_neg (show ¬ false = true by decide)]
      | true =>
        rw [if_pos rfl] at ih1
        rw [if_neg (show ¬ false = true by decide), Bool.false_and, if_neg (show ¬ false = true by decide)] at ih0
        rw [if_pos rfl, if_neg one_ne, M_skl, Option.bind_some, i42, Mo_st (by omega), if_pos rfl, nI_1, Mo_st (by omega), if_pos rfl, nI_clamp (by omega), nI_clamp (by omega), n1, n3, i5, Mo_skl (by omega), if_pos rfl, show nI (42 + 3 * c) + (2 : Int32) = nI (42 + 3 * c + 2) from nI_add _ 2, Mo_st (by omega), if_pos rfl, nI_clamp (by omega), nI_clamp (by omega), Bool.true_and]
        by_cases hs : d.1 84 (5 * bh (d.1 79) c + ch (d.1 79) c) = d.1 79 (42 + 3 * c + 2)
        · have hp : pM (d.1 84) (d.1 79) c = true := decide_eq_true hs
          rw [if_pos hs, ih1, hp]
        · have hp : pM (d.1 84) (d.1 79) c = false := decide_eq_false hs
          rw [if_neg hs, ih0, hp, Bool.false_and, if_neg (show ¬ false = true by decide)]
    · have hcn : ns (d.1 79) - c = 0 := by omega
      rw [if_pos ((nI_leI (by omega) (by omega)).mpr (by omega)), hcn]
      cases b with
      | false => rw [if_neg (show ¬ false = true by decide), if_pos (Or.inl rfl)]; rfl
      | true => rw [if_pos rfl, if_pos (Or.inr rfl)]; rfl
theorem m_isSo {d0 d : Dt} (hI : Inv d0) (hS : Sc d0 d) {p : Nat} (hp : p < 37) {x : Int32} (hG : Good (upd (d0.1 79) p x)) : ∃ D, Bk d D ∧ Tb (upd (d0.1 79) p x) 31 (D.1 84) ∧ f_X9_isSoWith L0 d 78 (nI p) x = some (if aS (upd (d0.1 79) p x) = true then 1 else 0, D) := by
  have hE : Eq60 ((pI (sd d) 80 p x).1 80) (wkN 0 (upd (d0.1 79) p x)) := by rw [pI_self]; exact (sd_e hS).upd
  obtain ⟨D, hD, hT, hq⟩ := m_so_O hG (k := fun x16_3 d16 => f_X9_isSoWith_L74 L0 d16 78 FU 1 0) FU 0 _ (by omega) (by unfold FU; omega) hE (fun u hu => by omega)
  have hB : Bk d D := ((sd_bn.tr Bn.pi).bk).tr hD
  have e79 : D.1 79 = d0.1 79 := by rw [hB.1 79 (by omega) (by omega)]; exact hS.e79
  refine ⟨D, hB, hT, ?_⟩
  unfold f_X9_isSoWith
  rw [M_cls, if_pos rfl, sd_st, Option.bind_some, M_now, Option.bind_some, Mo_now (by omega), if_pos rfl, nI_clamp (by omega)]
  refine hq.trans ?_
  have hl := m_so_T (d := D) (by rw [e79]; exact hI.2.1) FU 0 true (by omega) (by have := hI.2.1.2.2.2.2.1.2; rw [e79]; unfold FU; omega)
  rw [if_pos rfl, Bool.true_and, e79] at hl
  refine hl.trans ?_
  have e1 : ns (upd (d0.1 79) p x) = ns (d0.1 79) := by unfold ns; rw [upd_n (by omega)]
  have e2 : nk (upd (d0.1 79) p x) = nk (d0.1 79) := by unfold nk; rw [upd_n (by omega)]
  have e3 : al (pM (D.1 84) (d0.1 79)) (ns (d0.1 79) - 0) 0 = aS (upd (d0.1 79) p x) := by
    apply Bool.eq_iff_iff.mpr
    unfold aS
    rw [al_iff, al_iff, e1]
    refine forall_congr' fun i => forall_congr' fun _ => ?_
    constructor
    · intro h hi
      have h1 := of_decide_eq_true (h (by omega))
      obtain ⟨n1, n2, n3, n4⟩ := hI.2.1.nt (i := i) (by omega)
      have b1 : bh (upd (d0.1 79) p x) i = bh (d0.1 79) i := by unfold bh; rw [upd_n (by omega)]
      have b2 : ch (upd (d0.1 79) p x) i = ch (d0.1 79) i := by unfold ch; rw [upd_n (by omega)]
      rw [hT (bh (d0.1 79) i) (by omega) (ch (d0.1 79) i) (by omega)] at h1
      rw [b1, b2, upd_n (show 42 + 3 * i + 2 ≠ p by omega)]
      exact decide_eq_true h1
    · intro h hi
      have h1 := of_decide_eq_true (h (by omega))
      obtain ⟨n1, n2, n3, n4⟩ := hI.2.1.nt (i := i) (by omega)
      have b1 : bh (upd (d0.1 79) p x) i = bh (d0.1 79) i := by unfold bh; rw [upd_n (by omega)]
      have b2 : ch (upd (d0.1 79) p x) i = ch (d0.1 79) i := by unfold ch; rw [upd_n (by omega)]
      rw [b1, b2, upd_n (show 42 + 3 * i + 2 ≠ p by omega)] at h1
      refine decide_eq_true ?_
      rw [hT (bh (d0.1 79) i) (by omega) (ch (d0.1 79) i) (by omega)]
      exact h1
  rw [e3]
def whF (r : Rw) (p : Nat) (v : Int32) (i : Nat) : Int32 := if aS (upd r p (nI i)) = true then v ||| bitI i else v
theorem m_which_L {d0 : Dt} (hI : Inv d0) {p m : Nat} (hp : p < 37) (hm : m < 20) (hG : ∀ i, i ≤ m → Good (upd (d0.1 79) p (nI i))) : ∀ (f i : Nat) (v : Int32) (d : Dt), i ≤ m + 1 → m + 1 - i < f → Sc d0 d → ∃ D, Sc d0 D ∧ f_X9_which_L5 L0 78 (nI p) (nI m) f v (nI i) d = some (fo (whF (d0.1 79) p) (m + 1 - i) i v, D) := by
  intro f
  induction f with
  | zero => intro i v d h1 h2; omega
  | succ f ih =>
    intro i v d h1 h2 hS
    unfold f_X9_which_L5
    by_cases hi : i < m + 1
    · obtain ⟨e1, hB1, -, g1⟩ := m_isSo hI hS hp (hG i (by omega))
      obtain ⟨D, hD, hq⟩ := ih (i + 1) (whF (d0.1 79) p v i) e1 (by omega) (by omega) (hS.tr hB1.sc)
      refine ⟨D, hD, ?_⟩
      rw [if_neg (fun q => by have := (nI_ltI (a := m) (b := i) (by omega) (by omega)).mp q; omega), M_cls, if_pos rfl, g1, Option.bind_some, nI_1, fo_succ hi]
      have e : v ||| (f_X9_flag (if aS (upd (d0.1 79) p (nI i)) = true then 1 else 0) <<< (nI i &&& 31)) = whF (d0.1 79) p v i := by
        unfold whF
        split
        · rfl
        · exact or0 v _
      rw [e]
      exact hq
    · have : i = m + 1 := by omega
      subst this
      rw [if_pos (nI_lt (by omega) (by omega)), Nat.sub_self]
      exact ⟨d, hS, rfl⟩
theorem m_which {d0 d : Dt} (hI : Inv d0) {p m : Nat} (hp : p < 37) (hm : m < 20) (hG : ∀ i, i ≤ m → Good (upd (d0.1 79) p (nI i))) (hS : Sc d0 d) : ∃ D, Sc d0 D ∧ f_X9_which L0 d 78 (nI p) (nI m) = some (fo (whF (d0.1 79) p) (m + 1) 0 0, D) :=
  m_which_L hI hp hm hG FU 0 0 d (by omega) (by unfold FU; omega) hS
/-! kinds -/
theorem x_kinds_L {d0 : Dt} (hI : Inv d0) {c : Nat} (hc : c < nk (d0.1 79)) : ∀ (f i : Nat) (v : Int32) (d : Dt), i ≤ 4 → 4 - i < f → Sc d0 d → ∃ D, Sc d0 D ∧ f_X8_kinds_L17 L0 0 (nI c) f v (nI i) d = some (fo (whF (d0.1 79) (12 + 5 * c)) (4 - i) i v, D) := by
  have hG := hI.2.1
  have h5 := hG.1.2
  intro f
  induction f with
  | zero => intro i v d h1 h2; omega
  | succ f ih =>
    intro i v d h1 h2 hS
    unfold f_X8_kinds_L17
    by_cases hi : i < 4
    · obtain ⟨e1, g1, hR1, hB1⟩ := x_cpJ hI hS
      obtain ⟨e2, hB2, g2⟩ := x_comes isW18 (kiR_good hG hc hi) (kiR_rw hG hR1 (i := i) hc)
      have hS2 : Sc d0 e2 := hS.tr (Sc.bw ((hB1.tr (Bw.pI (by omega))).tr hB2))
      obtain ⟨D, hD, hq⟩ := ih (i + 1) (whF (d0.1 79) (12 + 5 * c) v i) e2 (by omega) (by omega) hS2
      refine ⟨D, hD, ?_⟩
      rw [if_neg (fun q => by have := (nI_leI (a := 4) (b := i) (by omega) (by omega)).mp q; omega), X_trial, Option.bind_some, X_world, Option.bind_some, W_cls isW18, if_pos rfl, g1, Option.bind_some, W_ch isW18, Option.bind_some, W_rac isW18 (by omega), Option.bind_some, W_ccl isW18 (by omega), if_pos rfl, g2, Option.bind_some, nI_1, fo_succ hi]
      unfold kiR
      unfold whF at hq ⊢
      by_cases ha : aS (upd (d0.1 79) (12 + 5 * c) (nI i)) = true
      · rw [if_pos ha] at hq ⊢
        rw [if_pos ha, if_neg one_ne]
        exact hq
      · rw [if_neg ha] at hq ⊢
        rw [if_neg ha, if_pos rfl]
        exact hq
    · have : i = 4 := by omega
      subst this
      rw [if_pos (by decide)]
      exact ⟨d, hS, rfl⟩
theorem st_kinds {d : Dt} (hI : Inv d) (a1 : Int32) : ∃ (z1 : Int32 × Dt) (z2 : Int32 × Dt), f_X8_kinds L0 d 0 a1 = some z1 ∧ f_X9_kinds L0 z1.2 78 a1 = some z2 ∧ z1.1 = z2.1 ∧ Inv z2.2 := by
  obtain ⟨hR, hG, -⟩ := id hI
  have h5 := hG.1.2
  by_cases h : f_X8_within a1 0 (d.1 79 37 - 1) = 0
  · exact ⟨(-1, d), (-1, d), by unfold f_X8_kinds; rw [X_world, Option.bind_some, W_cls isW3, if_pos rfl, x_has isW3 hR, Option.bind_some, if_pos h], by unfold f_X9_kinds; rw [M_cls, if_pos rfl, m_isChild, Option.bind_some, if_pos h], rfl, hI⟩
  have h' := h
  rw [hG.1.1] at h'
  obtain ⟨c, hc, rfl⟩ := (has_iff (by omega)).mp h'
  obtain ⟨d1, hS1, e1⟩ := x_kinds_L hI hc FU 0 0 d (by omega) (by unfold FU; omega) Sc.rf
  obtain ⟨d2, hS2, e2⟩ := m_which (p := 12 + 5 * c) (m := 3) hI (by omega) (by omega) (fun i hi => kiR_good hG hc (by omega)) hS1
  refine ⟨(fo (whF (d.1 79) (12 + 5 * c)) 4 0 0, d1), (fo (whF (d.1 79) (12 + 5 * c)) 4 0 0, d2), ?_, ?_, rfl, hI.mv hS2⟩
  · unfold f_X8_kinds
    rw [X_world, Option.bind_some, W_cls isW3, if_pos rfl, x_has isW3 hR, Option.bind_some, if_neg h]
    exact e1
  · show f_X9_kinds L0 d1 78 (nI c) = _
    unfold f_X9_kinds
    rw [M_cls, if_pos rfl, m_isChild, Option.bind_some, hS1.e79, if_neg h, show ((12 : Int32) + ((5 : Int32) * nI c)) + (0 : Int32) = nI (12 + 5 * c) from ixk c 0, show f_X9_which L0 d1 78 (nI (12 + 5 * c)) (3 : Int32) = _ from e2, Option.bind_some]
/-! seasons -/
theorem seR_good {r : Rw} (hG : Good r) {c i : Nat} (hc : c < nk r) (hi : i < 4) (hb : ¬ r (12 + 5 * c + 1) = -4) : Good (upd r (12 + 5 * c + 1) (nI i)) := by
  have h5 := hG.1.2
  exact hG.kid hc (fun j hj => upd_n (by omega)) ((hG.2.2.2.2.2.2.1 c hc).rebind hb hi (upd_n (by omega)) upd_s (upd_n (by omega)) (upd_n (by omega)) (upd_n (by omega)))
theorem seR_rw {d : Dt} {w : Nat} {r : Rw} (hG : Good r) (hR : RW d w r) {c i : Nat} (hc : c < nk r) (hi : i < 4) : RW (pI d (w + 10 + c) 1 (nI i)) w (upd r (12 + 5 * c + 1) (nI i)) := by
  have h5 := hG.1.2
  obtain ⟨q0, q2, q3, q4, q1, qs⟩ := hR.2.2.1 c hc
  exact hR.kid h5 hc (fun a ha => pI_ne ha) (fun j hj => upd_n (by omega)) ⟨by rw [pk (by decide), upd_n (by omega)]; exact q0, by rw [pk (by decide), upd_n (by omega)]; exact q2, by rw [pk (by decide), upd_n (by omega)]; exact q3, by rw [pk (by decide), upd_n (by omega)]; exact q4, fun _ => by rw [ps, upd_s], ⟨i, hi, ps⟩⟩
theorem x_seasons_L {d0 : Dt} (hI : Inv d0) {c : Nat} (hc : c < nk (d0.1 79)) (hb : ¬ d0.1 79 (12 + 5 * c + 1) = -4) : ∀ (f i : Nat) (v : Int32) (d : Dt), i ≤ 4 → 4 - i < f → Sc d0 d → ∃ D, Sc d0 D ∧ f_X8_seasons_L35 L0 0 (nI c) f v (nI i) d = some (fo (whF (d0.1 79) (12 + 5 * c + 1)) (4 - i) i v, D) := by
  have hG := hI.2.1
  have h5 := hG.1.2
  intro f
  induction f with
  | zero => intro i v d h1 h2; omega
  | succ f ih =>
    intro i v d h1 h2 hS
    unfold f_X8_seasons_L35
    by_cases hi : i < 4
    · obtain ⟨e1, g1, hR1, hB1⟩ := x_cpJ hI hS
      obtain ⟨e2, hB2, g2⟩ := x_comes isW18 (seR_good hG hc hi hb) (seR_rw hG hR1 hc hi)
      have hS2 : Sc d0 e2 := hS.tr (Sc.bw ((hB1.tr (Bw.pI (by omega))).tr hB2))
      obtain ⟨D, hD, hq⟩ := ih (i + 1) (whF (d0.1 79) (12 + 5 * c + 1) v i) e2 (by omega) (by omega) hS2
      refine ⟨D, hD, ?_⟩
      rw [if_neg (fun q => by have := (nI_leI (a := 4) (b := i) (by omega) (by omega)).mp q; omega), X_trial, Option.bind_some, X_world, Option.bind_some, W_cls isW18, if_pos rfl, g1, Option.bind_some, W_ch isW18, Option.bind_some, W_rac isW18 (by omega), Option.bind_some, W_ccl isW18 (by omega), if_pos rfl, g2, Option.bind_some, nI_1, fo_succ hi]
      unfold whF at hq ⊢
      by_cases ha : aS (upd (d0.1 79) (12 + 5 * c + 1) (nI i)) = true
      · rw [if_pos ha] at hq ⊢
        rw [if_pos ha, if_neg one_ne]
        exact hq
      · rw [if_neg ha] at hq ⊢
        rw [if_neg ha, if_pos rfl]
        exact hq
    · have : i = 4 := by omega
      subst this
      rw [if_pos (by decide)]
      exact ⟨d, hS, rfl⟩
theorem st_seasons {d : Dt} (hI : Inv d) (a1 : Int32) : ∃ (z1 : Int32 × Dt) (z2 : Int32 × Dt), f_X8_seasons L0 d 0 a1 = some z1 ∧ f_X9_seasons L0 z1.2 78 a1 = some z2 ∧ z1.1 = z2.1 ∧ Inv z2.2 := by
  obtain ⟨hR, hG, -⟩ := id hI
  have h5 := hG.1.2
  by_cases h : f_X8_within a1 0 (d.1 79 37 - 1) = 0
  · exact ⟨(-1, d), (-1, d), by unfold f_X8_seasons; rw [X_world, Option.bind_some, W_cls isW3, if_pos rfl, x_has isW3 hR, Option.bind_some, if_pos h], by unfold f_X9_seasons; rw [M_cls, if_pos rfl, m_isChild, Option.bind_some, if_pos h], rfl, hI⟩
  have h' := h
  rw [hG.1.1] at h'
  obtain ⟨c, hc, rfl⟩ := (has_iff (by omega)).mp h'
  by_cases hb : d.1 79 (12 + 5 * c + 1) = -4
  · refine ⟨(-2, d), (-2, d), ?_, ?_, rfl, hI⟩
    · unfold f_X8_seasons
      rw [X_world, Option.bind_some, W_cls isW3, if_pos rfl, x_has isW3 hR, Option.bind_some, if_neg h, W_ch isW3, Option.bind_some, W_rac isW3 (by omega), Option.bind_some, W_ccl isW3 (by omega), if_pos rfl, x_isFree isW3 hR hG hc, if_pos hb, Option.bind_some, if_neg one_ne]
    · unfold f_X9_seasons
      rw [M_cls, if_pos rfl, m_isChild, Option.bind_some, if_neg h, m_isBound (by omega), if_pos hb, Option.bind_some, if_pos rfl]
  obtain ⟨d1, hS1, e1⟩ := x_seasons_L hI hc hb FU 0 0 d (by omega) (by unfold FU; omega) Sc.rf
  obtain ⟨d2, hS2, e2⟩ := m_which (p := 12 + 5 * c + 1) (m := 3) hI (by omega) (by omega) (fun i hi => seR_good hG hc (by omega) hb) hS1
  refine ⟨(fo (whF (d.1 79) (12 + 5 * c + 1)) 4 0 0, d1), (fo (whF (d.1 79) (12 + 5 * c + 1)) 4 0 0, d2), ?_, ?_, rfl, hI.mv hS2⟩
  · unfold f_X8_seasons
    rw [X_world, Option.bind_some, W_cls isW3, if_pos rfl, x_has isW3 hR, Option.bind_some, if_neg h, W_ch isW3, Option.bind_some, W_rac isW3 (by omega), Option.bind_some, W_ccl isW3 (by omega), if_pos rfl, x_isFree isW3 hR hG hc, if_neg hb, Option.bind_some, if_pos rfl]
    exact e1
  · show f_X9_seasons L0 d1 78 (nI c) = _
    unfold f_X9_seasons
    rw [M_cls, if_pos rfl, m_isChild, Option.bind_some, hS1.e79, if_neg h, m_isBound (by omega), hS1.e79, if_neg hb, Option.bind_some, if_neg one_ne, show ((12 : Int32) + ((5 : Int32) * nI c)) + (1 : Int32) = nI (12 + 5 * c + 1) from ixk c 1, show f_X9_which L0 d1 78 (nI (12 + 5 * c + 1)) (3 : Int32) = _ from e2, Option.bind_some]
/-! gifts -/
theorem x_gifts_L {d0 : Dt} (hI : Inv d0) {s : Nat} (hs : s < 4) : ∀ (f i : Nat) (v : Int32) (d : Dt), i ≤ 10 → 10 - i < f → Sc d0 d → ∃ D, Sc d0 D ∧ f_X8_fittingGifts_L4 L0 0 (nI s) f v (nI i) d = some (fo (whF (d0.1 79) (3 * s + 1)) (10 - i) i v, D) := by
  have hG := hI.2.1
  intro f
  induction f with
  | zero => intro i v d h1 h2; omega
  | succ f ih =>
    intro i v d h1 h2 hS
    unfold f_X8_fittingGifts_L4
    by_cases hi : i < 10
    · obtain ⟨e1, g1, hR1, hB1⟩ := x_cpJ hI hS
      obtain ⟨e2, hB2, g2⟩ := x_comes isW18 (giR_good hG hs (g := i) (by omega)) (giR_rw hG hR1 (v := nI i) hs)
      have hS2 : Sc d0 e2 := hS.tr (Sc.bw ((hB1.tr (Bw.pI (by omega))).tr hB2))
      obtain ⟨D, hD, hq⟩ := ih (i + 1) (whF (d0.1 79) (3 * s + 1) v i) e2 (by omega) (by omega) hS2
      refine ⟨D, hD, ?_⟩
      rw [if_neg (fun q => by have := (nI_ltI (a := 9) (b := i) (by omega) (by omega)).mp q; omega), X_trial, Option.bind_some, X_world, Option.bind_some, W_cls isW18, if_pos rfl, g1, Option.bind_some, W_se isW18, Option.bind_some, W_ras isW18 hs, Option.bind_some, W_scl isW18 hs, if_pos rfl, g2, Option.bind_some, nI_1, fo_succ hi]
      unfold giR
      unfold whF at hq ⊢
      by_cases ha : aS (upd (d0.1 79) (3 * s + 1) (nI i)) = true
      · rw [if_pos ha] at hq ⊢
        rw [if_pos ha, if_neg one_ne]
        exact hq
      · rw [if_neg ha] at hq ⊢
        rw [if_neg ha, if_pos rfl]
        exact hq
    · have : i = 10 := by omega
      subst this
      rw [if_pos (by decide)]
      exact ⟨d, hS, rfl⟩
theorem x_fitting {d0 d : Dt} (hI : Inv d0) (hS : Sc d0 d) {s : Nat} (hs : s < 4) : ∃ D, Sc d0 D ∧ f_X8_fittingGifts L0 d 0 (nI s) = some (fo (whF (d0.1 79) (3 * s + 1)) 10 0 0, D) :=
  x_gifts_L hI hs FU 0 0 d (by omega) (by unfold FU; omega) hS
theorem st_gifts {d : Dt} (hI : Inv d) (a1 : Int32) : ∃ (z1 : Int32 × Dt) (z2 : Int32 × Dt), f_X8_gifts L0 d 0 a1 = some z1 ∧ f_X9_gifts L0 z1.2 78 a1 = some z2 ∧ z1.1 = z2.1 ∧ Inv z2.2 := by
  have hG := hI.2.1
  by_cases h : f_X8_isSeason a1 = 0
  · exact ⟨(-1, d), (-1, d), by unfold f_X8_gifts; rw [if_pos h], by unfold f_X9_gifts; rw [m_isSeason, if_pos h], rfl, hI⟩
  obtain ⟨s, hs, rfl⟩ := seas_iff.mp h
  obtain ⟨d1, hS1, e1⟩ := x_fitting hI Sc.rf hs
  obtain ⟨d2, hS2, e2⟩ := m_which (p := 3 * s + 1) (m := 9) hI (by omega) (by omega) (fun i hi => giR_good hG hs hi) hS1
  refine ⟨(fo (whF (d.1 79) (3 * s + 1)) 10 0 0, d1), (fo (whF (d.1 79) (3 * s + 1)) 10 0 0, d2), ?_, ?_, rfl, hI.mv hS2⟩
  · unfold f_X8_gifts
    rw [if_neg h, X_cls, if_pos rfl, e1, Option.bind_some]
  · show f_X9_gifts L0 d1 78 (nI s) = _
    unfold f_X9_gifts
    rw [m_isSeason, if_neg h, M_cls, if_pos rfl, show ((3 : Int32) * nI s) + (1 : Int32) = nI (3 * s + 1) from ix3 s 1, show f_X9_which L0 d1 78 (nI (3 * s + 1)) (9 : Int32) = _ from e2, Option.bind_some]
