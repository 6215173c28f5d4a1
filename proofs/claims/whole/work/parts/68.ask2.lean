/-! ===== ask: the reference's tables ===== -/
theorem fo_last {σ : Type} {f : σ → Nat → σ} : ∀ (k c : Nat) (s : σ), fo f (k + 1) c s = f (fo f k c s) (c + k)
  | 0, _, _ => rfl
  | k + 1, c, s => by
    show fo f (k + 1) (c + 1) (f s c) = f (fo f k (c + 1) (f s c)) (c + (k + 1))
    rw [fo_last k (c + 1) (f s c), show c + 1 + k = c + (k + 1) by omega]
theorem fo_app {σ : Type} {f : σ → Nat → σ} : ∀ (k l c : Nat) (s : σ), fo f (k + l) c s = fo f l (c + k) (fo f k c s)
  | 0, l, c, s => by rw [Nat.zero_add]; rfl
  | k + 1, l, c, s => by
    rw [show k + 1 + l = (k + l) + 1 by omega]
    show fo f (k + l) (c + 1) (f s c) = fo f l (c + (k + 1)) (fo f k (c + 1) (f s c))
    rw [fo_app k l (c + 1) (f s c), show c + 1 + k = c + (k + 1) by omega]
theorem fo_id {σ : Type} {f : σ → Nat → σ} : ∀ (k c : Nat) (s : σ), (∀ i, c ≤ i → i < c + k → f s i = s) → fo f k c s = s
  | 0, _, _, _ => rfl
  | k + 1, c, s, h => by
    show fo f k (c + 1) (f s c) = s
    rw [h c (Nat.le_refl c) (by omega)]
    exact fo_id k (c + 1) s (fun i h1 h2 => h i (by omega) (by omega))
theorem fo_succ' {σ : Type} {f : σ → Nat → σ} {k c j : Nat} {s : σ} (h : c < k) : fo f (k - c) j s = fo f (k - (c + 1)) (j + 1) (f s j) := by
  have : k - c = (k - (c + 1)) + 1 := by omega
  rw [this]
  rfl
theorem fo_rk {σ : Type} {fit : Nat → Bool} {F G : σ → Nat → σ} {s : σ} : ∀ v, (∀ g, g < v → fit g = true → ∀ m, F m (rk fit g) = G m g) → fo F (rk fit v) 0 s = fo (fun m g => if fit g = true then G m g else m) v 0 s := by
  intro v
  induction v with
  | zero => intro _; rfl
  | succ v ih =>
    intro h
    have e1 := ih (fun g hg => h g (by omega))
    have e2 : fo (fun m g => if fit g = true then G m g else m) (v + 1) 0 s = (if fit v = true then G (fo F (rk fit v) 0 s) v else fo F (rk fit v) 0 s) := by
      rw [fo_last v 0 s, Nat.zero_add, ← e1]
    rw [e2]
    by_cases hf : fit v = true
    · have er : rk fit (v + 1) = rk fit v + 1 := by show rk fit v + _ = _; rw [if_pos hf]
      rw [er, fo_last, Nat.zero_add, h v (by omega) hf, if_pos hf]
    · have er : rk fit (v + 1) = rk fit v := by show rk fit v + _ = _; rw [if_neg hf, Nat.add_zero]
      rw [er, if_neg hf]
theorem rk_lt {fit : Nat → Bool} {g : Nat} (hf : fit g = true) : ∀ v, g < v → rk fit g + 1 ≤ rk fit v := by
  intro v
  induction v with
  | zero => intro h; omega
  | succ v ih =>
    intro h
    show _ ≤ rk fit v + _
    by_cases e : g = v
    · subst e; rw [if_pos hf]; omega
    · have := ih (by omega); omega
def fB (T : Nat → Int32) (z : Int32) (m b : Nat) : Nat := if z = T b then m + 1 else m
def fA (T : Nat → Int32) (many : Nat) (m a : Nat) : Nat := if fo (fB T (T a)) many 0 0 ≤ m then m else fo (fB T (T a)) many 0 0
theorem fB_le {T : Nat → Int32} {z : Int32} : ∀ (k c m : Nat), fo (fB T z) k c m ≤ m + k := by
  intro k
  induction k with
  | zero => intro c m; exact Nat.le_refl _
  | succ k ih =>
    intro c m
    show fo (fB T z) k (c + 1) (fB T z m c) ≤ _
    have h1 := ih (c + 1) (fB T z m c)
    have h2 : fB T z m c ≤ m + 1 := by unfold fB; split <;> omega
    omega
theorem fB_cG {fit : Nat → Bool} {val : Nat → Nat} {T : Nat → Int32} {a : Nat} (ha : a < 2 ^ 31) : ∀ v, (∀ g, g < v → fit g = true → T (rk fit g) = nI (val g) ∧ val g < 2 ^ 31) → fo (fB T (nI a)) (rk fit v) 0 0 = cG fit val a v := by
  intro v
  induction v with
  | zero => intro _; rfl
  | succ v ih =>
    intro h
    have e1 := ih (fun g hg => h g (by omega))
    have ec : cG fit val a (v + 1) = cG fit val a v + (if fit v = true ∧ val v = a then 1 else 0) := rfl
    by_cases hf : fit v = true
    · have er : rk fit (v + 1) = rk fit v + 1 := by show rk fit v + _ = _; rw [if_pos hf]
      obtain ⟨h1, h2⟩ := h v (by omega) hf
      rw [er, fo_last, Nat.zero_add, e1, ec]
      unfold fB
      rw [h1]
      by_cases e : a = val v
      · rw [if_pos (by rw [e]), if_pos ⟨hf, e.symm⟩]
      · rw [if_neg (fun q => e (nI_inj ha h2 q)), if_neg (fun q => e q.2.symm), Nat.add_zero]
    · have er : rk fit (v + 1) = rk fit v := by show rk fit v + _ = _; rw [if_neg hf, Nat.add_zero]
      rw [er, e1, ec, if_neg (fun q => hf q.1), Nat.add_zero]
theorem fA_mcG {fit : Nat → Bool} {val : Nat → Nat} {T : Nat → Int32} (h : ∀ g, g < 10 → fit g = true → T (rk fit g) = nI (val g) ∧ val g < 2 ^ 31) : fo (fA T (rk fit 10)) (rk fit 10) 0 0 = mcG fit val 10 := by
  unfold mcG
  refine fo_rk (F := fA T (rk fit 10)) (G := fun m g => if cG fit val (val g) 10 ≤ m then m else cG fit val (val g) 10) 10 (fun g hg hf m => ?_)
  unfold fA
  rw [(h g hg hf).1, fB_cG (h g hg hf).2 10 h]
theorem i155 (v e : Nat) : (155 : Int32) * nI v + nI e = nI (155 * v + e) := by
  rw [show (155 : Int32) = nI 155 from rfl, nI_mul, nI_add]
theorem flag1 : f_X9_flag (1 : Int32) = 1 := by decide
theorem flag0 : f_X9_flag (0 : Int32) = 0 := by decide
theorem m_ask_b {d : Dt} {many j a : Nat} (hm : many ≤ 10) (hj : j < 155) (ha : a < many) {v2 v4 v5 v7 : Int32} {K : Int32 → Int32 → Option (Int32 × Dt)} : ∀ (f b m : Nat), b ≤ many → many - b < f → f_X9_ask_L124 L0 d 78 v2 (nI many) v4 v5 (nI j) v7 (nI a) K f (nI m) (nI b) = K (nI (fo (fB (fun b => d.1 85 (155 * b + j)) (d.1 85 (155 * a + j))) (many - b) b m)) (nI many) := by
  intro f
  induction f with
  | zero => intro b m h1 h2; omega
  | succ f ih =>
    intro b m h1 h2
    unfold f_X9_ask_L124
    by_cases hb : b < many
    · rw [if_neg (fun q => by have := (nI_leI (a := many) (b := b) (by omega) (by omega)).mp q; omega), M_byg, Option.bind_some, i155, i155, Mo_byg (j := 155 * a + j) (by omega), if_pos rfl, Mo_byg (j := 155 * b + j) (by omega), if_pos rfl, nI_clamp (n := 155 * a + j) (by omega), nI_clamp (n := 155 * b + j) (by omega), flag1, flag0, fo_succ hb]
      by_cases he : d.1 85 (155 * a + j) = d.1 85 (155 * b + j)
      · rw [if_pos he, nI_1, nI_1, ih (b + 1) (m + 1) (by omega) (by omega), show fB (fun b => d.1 85 (155 * b + j)) (d.1 85 (155 * a + j)) m b = m + 1 from if_pos he]
      · rw [if_neg he, Int32.add_zero, nI_1, ih (b + 1) m (by omega) (by omega), show fB (fun b => d.1 85 (155 * b + j)) (d.1 85 (155 * a + j)) m b = m from if_neg he]
    · have : b = many := by omega
      subst this
      rw [if_pos ((nI_leI (by omega) (by omega)).mpr (by omega)), Nat.sub_self]
      rfl
theorem m_ask_a {d : Dt} {many j : Nat} (hm : many ≤ 10) (hj : j < 155) {v2 v4 v5 : Int32} {K : Int32 → Int32 → Option (Int32 × Dt)} : ∀ (f a m : Nat), a ≤ many → many - a < f → m ≤ 10 → f_X9_ask_L112 L0 d 78 v2 (nI many) v4 v5 (nI j) K f (nI m) (nI a) = K (nI (fo (fA (fun b => d.1 85 (155 * b + j)) many) (many - a) a m)) (nI many) := by
  intro f
  induction f with
  | zero => intro a m h1 h2; omega
  | succ f ih =>
    intro a m h1 h2 h3
    unfold f_X9_ask_L112
    by_cases ha : a < many
    · rw [if_neg (fun q => by have := (nI_leI (a := many) (b := a) (by omega) (by omega)).mp q; omega)]
      refine (m_ask_b hm hj ha FU 0 0 (by omega) (by unfold FU; omega)).trans ?_
      have hle := fB_le (T := fun b => d.1 85 (155 * b + j)) (z := d.1 85 (155 * a + j)) many 0 0
      rw [fo_succ ha, Nat.sub_zero]
      by_cases hc : fo (fB (fun b => d.1 85 (155 * b + j)) (d.1 85 (155 * a + j))) many 0 0 ≤ m
      · rw [if_pos ((nI_leI (by omega) (by omega)).mpr hc), nI_1, ih (a + 1) m (by omega) (by omega) h3, show fA (fun b => d.1 85 (155 * b + j)) many m a = m from if_pos hc]
      · rw [if_neg (fun q => hc ((nI_leI (by omega) (by omega)).mp q)), nI_1, ih (a + 1) _ (by omega) (by omega) (by omega), show fA (fun b => d.1 85 (155 * b + j)) many m a = _ from if_neg hc]
    · have : a = many := by omega
      subst this
      rw [if_pos ((nI_leI (by omega) (by omega)).mpr (by omega)), Nat.sub_self]
      rfl
def qr (q : Nat) : Int32 := if q = 999 then -4 else nI q
def qc (q : Nat) : Int32 := if q = 999 then -4 else nI (10 * (q / 5) + q % 5)
def fS (w : Nat → Nat) (n : Nat) (p : Nat × Nat) (j : Nat) : Nat × Nat := if n ≤ j % 5 then p else if p.1 ≤ w j then p else (w j, j)
theorem fS_le {w : Nat → Nat} {n : Nat} (p : Nat × Nat) (j : Nat) : (fS w n p j).1 ≤ p.1 := by
  unfold fS
  split
  · exact Nat.le_refl _
  · split
    · exact Nat.le_refl _
    · show w j ≤ p.1
      omega
theorem fSf_le {w : Nat → Nat} {n : Nat} : ∀ (k c : Nat) (p : Nat × Nat), (fo (fS w n) k c p).1 ≤ p.1 := by
  intro k
  induction k with
  | zero => intro c p; exact Nat.le_refl _
  | succ k ih =>
    intro c p
    exact Nat.le_trans (ih (c + 1) (fS w n p c)) (fS_le p c)
theorem fSf_b {w : Nat → Nat} {n : Nat} : ∀ (k c : Nat) (p : Nat × Nat), c + k ≤ 155 → (p.2 = 999 ∨ p.2 < 155) → ((fo (fS w n) k c p).2 = 999 ∨ (fo (fS w n) k c p).2 < 155) := by
  intro k
  induction k with
  | zero => intro c p _ h; exact h
  | succ k ih =>
    intro c p hc h
    refine ih (c + 1) (fS w n p c) (by omega) ?_
    unfold fS
    split
    · exact h
    · split
      · exact h
      · exact Or.inr (show c < 155 by omega)
theorem m_ask_c {d : Dt} {many n : Nat} (hn : d.1 79 37 = nI n) (hn5 : n ≤ 5) (hm : many ≤ 10) {w : Nat → Nat} (hwb : ∀ j, w j ≤ 10) (hw : ∀ j, j < 155 → j % 5 < n → fo (fA (fun b => d.1 85 (155 * b + j)) many) many 0 0 = w j) {v2 : Int32} {K : Int32 → Int32 → Int32 → Option (Int32 × Dt)} : ∀ (f j : Nat) (p : Nat × Nat), j ≤ 155 → 155 - j < f → p.1 ≤ 10 → f_X9_ask_L98 L0 d 78 v2 (nI many) K f (nI p.1) (qr p.2) (nI j) = K (nI (fo (fS w n) (155 - j) j p).1) (qr (fo (fS w n) (155 - j) j p).2) (nI 155) := by
  intro f
  induction f with
  | zero => intro j p h1 h2; omega
  | succ f ih =>
    intro j p h1 h2 h3
    unfold f_X9_ask_L98
    by_cases hj : j < 155
    · rw [if_neg (fun q => by have := (nI_leI (a := 155) (b := j) (by omega) (by omega)).mp q; omega)]
      refine (m_ask_a hm hj FU 0 0 (by omega) (by unfold FU; omega) (by omega)).trans ?_
      rw [M_st, Option.bind_some, mo37, if_pos rfl, t37, hn, show nI j - nI j / (5 : Int32) * (5 : Int32) = nI (j % 5) from nI_mod (a := j) (b := 5) (by omega) (by omega), fo_succ hj, Nat.sub_zero]
      by_cases hc : n ≤ j % 5
      · rw [if_pos ((nI_leI (by omega) (by omega)).mpr hc), nI_1, ih (j + 1) p (by omega) (by omega) h3, show fS w n p j = p from if_pos hc]
      · have hwj := hwb j
        rw [if_neg (fun q => hc ((nI_leI (by omega) (by omega)).mp q)), hw j hj (by omega)]
        by_cases hp : p.1 ≤ w j
        · have e : fS w n p j = p := by unfold fS; rw [if_neg hc, if_pos hp]
          rw [if_pos ((nI_leI (by omega) (by omega)).mpr hp), nI_1, ih (j + 1) p (by omega) (by omega) h3, e]
        · have e : fS w n p j = (w j, j) := by unfold fS; rw [if_neg hc, if_neg hp]
          have ih' := ih (j + 1) (w j, j) (by omega) (by omega) hwj
          rw [show qr (w j, j).2 = nI j from if_neg (by show ¬ j = 999; omega)] at ih'
          rw [if_neg (fun q => hp ((nI_leI (by omega) (by omega)).mp q)), nI_1, e]
          exact ih'
    · have : j = 155 := by omega
      subst this
      rw [if_pos (by decide), Nat.sub_self]
      rfl
/-! the gifts one by one -/
def fG (r : Rw) (s i : Nat) : Bool := aS (upd r (3 * s + 1) (nI i))
def VN (r : Rw) (s u c g : Nat) : Nat := rsd (xN r c) (qN r c u * lrnN (kN r c) (if bN r c = s ∧ 0 < tN r c then g else gN r (bN r c))) (mN r (bN r c))
theorem gi_val {r : Rw} (hG : Good r) {s : Nat} (hs : s < 4) {c : Nat} (hc : c < nk r) {g : Nat} (hg : g ≤ 9) (u : Nat) : wkN u (upd r (3 * s + 1) (nI g)) (12 + 5 * c + 3) = nI (VN r s u c g) ∧ VN r s u c g ≤ 99 := by
  have h5 := hG.1.2
  have hG' : Good (upd r (3 * s + 1) (nI g)) := giR_good hG hs hg
  have hk := hG.knN hc
  have hk' : Kn (upd r (3 * s + 1) (nI g)) c (kN r c) (bN r c) (tN r c) (xN r c) (aN r c) := by
    obtain ⟨e0, hk0, e2, ht, hb, e3, hx, e4, ha⟩ := id hk
    refine ⟨by rw [upd_n (by omega)]; exact e0, hk0, by rw [upd_n (by omega)]; exact e2, ht, ?_, by rw [upd_n (by omega)]; exact e3, hx, by rw [upd_n (by omega)]; exact e4, ha⟩
    rw [upd_n (by omega)]
    exact hb
  have hS' : 0 < tN r c → ∃ y, Sn (upd r (3 * s + 1) (nI g)) (bN r c) y (if bN r c = s ∧ 0 < tN r c then g else gN r (bN r c)) (mN r (bN r c)) := by
    intro ht
    obtain ⟨y, a1, a2, a3, a4, a5, a6, a7⟩ := hG.snB hc ht
    by_cases e : bN r c = s
    · rw [if_pos ⟨e, ht⟩]
      refine ⟨y, by rw [upd_n (by omega)]; exact a1, a2, a3, by rw [e, upd_s], hg, by rw [upd_n (by omega)]; exact a6, a7⟩
    · rw [if_neg (fun z => e z.1)]
      exact ⟨y, by rw [upd_n (by omega)]; exact a1, a2, a3, by rw [upd_n (by omega)]; exact a4, a5, by rw [upd_n (by omega)]; exact a6, a7⟩
  have hnk : nk (upd r (3 * s + 1) (nI g)) = nk r := by unfold nk; rw [upd_n (by omega)]
  have hsd : Sd (upd r (3 * s + 1) (nI g)) r := ⟨fun i hi => upd_n (by omega), upd_n (by omega), upd_n (by omega)⟩
  obtain ⟨a', hk2⟩ := course hG' (by rw [hnk]; exact hc) hk' hS' (fun _ => 0) u
  rw [wkO_0, cj_0, cq_congr (fun v => seN_sd hG' hG hsd v)] at hk2
  exact ⟨hk2.sk.1, hk2.sk.2⟩
def TbA (r : Rw) (s v : Nat) (S : Rw) : Prop := ∀ g, g < v → fG r s g = true → ∀ u, u < 31 → ∀ c, c < nk r → S (155 * rk (fG r s) g + (5 * u + c)) = nI (VN r s u c g)
def cpA (S : Rw) (m e : Nat) (B : Rw) : Rw := fun j => if 155 * m + e ≤ j ∧ j < 155 * m + 155 then S (j - 155 * m) else B j
theorem m_ask_k {many : Nat} (hm : many < 10) {v1 v2 v4 : Int32} {K : Int32 → Dt → Option (Int32 × Dt)} : ∀ (f e : Nat) (d : Dt), e ≤ 155 → 155 - e < f → f_X9_ask_L45 L0 78 v1 v2 (nI many) v4 K f (nI e) d = K (nI 155) (sR d 85 (cpA (d.1 84) many e (d.1 85))) := by
  intro f
  induction f with
  | zero => intro e d h1 h2; omega
  | succ f ih =>
    intro e d h1 h2
    unfold f_X9_ask_L45
    by_cases he : e < 155
    · rw [if_neg (fun q => by have := (nI_leI (a := 155) (b := e) (by omega) (by omega)).mp q; omega), M_byg, Option.bind_some, M_skl, Option.bind_some, i155, Mo_skl (by omega), if_pos rfl, Mo_byg (by omega), if_pos rfl, nI_1, nI_clamp (n := 155 * many + e) (by omega), nI_clamp (n := e) (by omega), ih (e + 1) _ (by omega) (by omega)]
      congr 1
      rw [pI_sR, sR_sR, sR_self, sR_ne (by omega)]
      congr 1
      funext j
      unfold cpA
      by_cases c1 : j = 155 * many + e
      · subst c1
        rw [if_neg (by omega), if_pos (by omega), upd_s, show 155 * many + e - 155 * many = e by omega]
      · rw [upd_n c1]
        by_cases c2 : 155 * many + (e + 1) ≤ j ∧ j < 155 * many + 155
        · rw [if_pos c2, if_pos (by omega)]
        · rw [if_neg c2, if_neg (by omega)]
    · have : e = 155 := by omega
      subst this
      rw [if_pos (by decide)]
      congr 1
      rw [show cpA (d.1 84) many 155 (d.1 85) = d.1 85 from funext fun j => if_neg (by omega), sR_id]
theorem m_ask_v {d0 : Dt} (hI : Inv d0) {s : Nat} (hs : s < 4) {v2 : Int32} {K : Int32 → Int32 → Dt → Option (Int32 × Dt)} : ∀ (f v : Nat) (d : Dt), v ≤ 10 → 10 - v < f → Sc d0 d → TbA (d0.1 79) s v (d.1 85) → ∃ D, Sc d0 D ∧ TbA (d0.1 79) s 10 (D.1 85) ∧ f_X9_ask_L21 L0 78 (nI s) v2 K f (nI (rk (fG (d0.1 79) s) v)) (nI v) d = K (nI (rk (fG (d0.1 79) s) 10)) (nI 10) D := by
  have hG := hI.2.1
  have h5 := hG.1.2
  intro f
  induction f with
  | zero => intro v d h1 h2; omega
  | succ f ih =>
    intro v d h1 h2 hS hT
    unfold f_X9_ask_L21
    by_cases hv : v < 10
    · have hGv : Good (upd (d0.1 79) (3 * s + 1) (nI v)) := giR_good hG hs (by omega)
      obtain ⟨e1, hB1, hT1, g1⟩ := m_isSo hI hS (p := 3 * s + 1) (by omega) (x := nI v) hGv
      have hnk : nk (upd (d0.1 79) (3 * s + 1) (nI v)) = nk (d0.1 79) := by unfold nk; rw [upd_n (by omega)]
      have hS1 := hS.tr hB1.sc
      have e85 : e1.1 85 = d.1 85 := hB1.1 85 (by omega) (by omega)
      have hrk := rk_le (fit := fG (d0.1 79) s) v
      rw [if_neg (fun q => by have := (nI_ltI (a := 9) (b := v) (by omega) (by omega)).mp q; omega), M_cls, if_pos rfl, show ((3 : Int32) * nI s) + (1 : Int32) = nI (3 * s + 1) from ix3 s 1, g1, Option.bind_some]
      by_cases hf : aS (upd (d0.1 79) (3 * s + 1) (nI v)) = true
      · have hff : fG (d0.1 79) s v = true := hf
        have er : rk (fG (d0.1 79) s) (v + 1) = rk (fG (d0.1 79) s) v + 1 := by show rk (fG (d0.1 79) s) v + _ = _; rw [if_pos hff]
        have hS2 : Sc d0 (sR e1 85 (cpA (e1.1 84) (rk (fG (d0.1 79) s) v) 0 (e1.1 85))) := hS1.tr (Sc.sr (by unfold scr; omega) (by omega))
        have hT2 : TbA (d0.1 79) s (v + 1) ((sR e1 85 (cpA (e1.1 84) (rk (fG (d0.1 79) s) v) 0 (e1.1 85))).1 85) := by
          intro g hg hfg u hu c hc
          rw [sR_self]
          unfold cpA
          by_cases e : g = v
          · subst e
            rw [if_pos (by omega), show 155 * rk (fG (d0.1 79) s) g + (5 * u + c) - 155 * rk (fG (d0.1 79) s) g = 5 * u + c by omega, hT1 u hu c (by rw [hnk]; exact hc)]
            exact (gi_val hG hs hc (by omega) u).1
          · have hlt := rk_lt hfg v (by omega)
            rw [if_neg (by omega), e85]
            exact hT g (by omega) hfg u hu c hc
        obtain ⟨D, hD, hTD, hq⟩ := ih (v + 1) _ (by omega) (by omega) hS2 hT2
        refine ⟨D, hD, hTD, ?_⟩
        rw [if_pos hf, if_neg one_ne]
        refine (m_ask_k (many := rk (fG (d0.1 79) s) v) (by omega) FU 0 e1 (by omega) (by unfold FU; omega)).trans ?_
        rw [er] at hq
        rw [nI_1, nI_1]
        exact hq
      · have hff : ¬ fG (d0.1 79) s v = true := hf
        have er : rk (fG (d0.1 79) s) (v + 1) = rk (fG (d0.1 79) s) v := by show rk (fG (d0.1 79) s) v + _ = _; rw [if_neg hff, Nat.add_zero]
        have hT2 : TbA (d0.1 79) s (v + 1) (e1.1 85) := by
          intro g hg hfg u hu c hc
          by_cases e : g = v
          · subst e; exact absurd hfg hff
          · rw [e85]; exact hT g (by omega) hfg u hu c hc
        obtain ⟨D, hD, hTD, hq⟩ := ih (v + 1) e1 (by omega) (by omega) hS1 hT2
        refine ⟨D, hD, hTD, ?_⟩
        rw [er] at hq
        rw [if_neg hf, if_pos rfl, nI_1]
        exact hq
    · have : v = 10 := by omega
      subst this
      rw [if_pos (by decide)]
      exact ⟨d, hS, hT, rfl⟩
def wG (r : Rw) (s j : Nat) : Nat := mcG (fG r s) (VN r s (j / 5) (j % 5)) 10
theorem wG_le {r : Rw} {s j : Nat} : wG r s j ≤ rk (fG r s) 10 := mcG_le
/-- what is told -/
def askV (p : Nat × Nat) (v : Int32) : Int32 := if p.2 = 999 then -4 else if v = 0 then nI (10 * (p.2 / 5) + p.2 % 5) else nI p.1
def askP (r : Rw) (s : Nat) : Nat × Nat := fo (fS (wG r s) (nk r)) 155 0 (rk (fG r s) 10, 999)
theorem m_ask {d0 d : Dt} (hI : Inv d0) (hS : Sc d0 d) {s : Nat} (hs : s < 4) {v : Int32} (hv : ¬ f_X8_isWhichOrHowMuch v = 0) (hs' : ¬ f_X8_isSeason (nI s) = 0) : ∃ D, Sc d0 D ∧ f_X9_ask L0 d 78 (nI s) v = some (askV (askP (d0.1 79) s) v, D) := by
  have hG := hI.2.1
  have h5 := hG.1.2
  obtain ⟨D, hD, hT, hq⟩ := m_ask_v hI hs (v2 := v) (K := fun x13_3 x13_4 d13 => f_X9_ask_L98 L0 d13 78 v x13_3 (fun x28_4 x28_5 x28_6 => if x28_5 = (-4 : Int32) then (some ((-4 : Int32), d13)) else (if v = 0 then (some ((((10 : Int32) * (x28_5 / (5 : Int32))) + (x28_5 - x28_5 / (5 : Int32) * (5 : Int32))), d13)) else (some (x28_4, d13)))) FU x13_3 (-4 : Int32) (0 : Int32)) FU 0 d (by omega) (by unfold FU; omega) hS (fun g hg => by omega)
  refine ⟨D, hD, ?_⟩
  unfold f_X9_ask
  rw [m_isSeason, if_neg hs', m_isPart, if_neg hv]
  refine hq.trans ?_
  have hr := rk_le (fit := fG (d0.1 79) s) 10
  have hn : D.1 79 37 = nI (nk (d0.1 79)) := by rw [hD.e79]; exact hG.1.1
  have key := m_ask_c (d := D) (many := rk (fG (d0.1 79) s) 10) hn h5 hr (w := wG (d0.1 79) s) (fun j => Nat.le_trans wG_le hr) (fun j hj hjn => by
    refine fA_mcG (fun g hg hf => ?_)
    have h1 := hT g hg hf (j / 5) (by omega) (j % 5) hjn
    rw [show 5 * (j / 5) + j % 5 = j by omega] at h1
    have h2 := (gi_val hG hs hjn (show g ≤ 9 by omega) (j / 5)).2
    exact ⟨h1, by omega⟩) (v2 := v) (K := fun x28_4 x28_5 x28_6 => if x28_5 = (-4 : Int32) then (some ((-4 : Int32), D)) else (if v = 0 then (some ((((10 : Int32) * (x28_5 / (5 : Int32))) + (x28_5 - x28_5 / (5 : Int32) * (5 : Int32))), D)) else (some (x28_4, D)))) FU 0 (rk (fG (d0.1 79) s) 10, 999) (by omega) (by unfold FU; omega) hr
  have hb : (askP (d0.1 79) s).2 = 999 ∨ (askP (d0.1 79) s).2 < 155 := fSf_b 155 0 _ (by omega) (Or.inl rfl)
  generalize hP : fo (fS (wG (d0.1 79) s) (nk (d0.1 79))) (155 - 0) 0 (rk (fG (d0.1 79) s) 10, 999) = P at key
  have hPa : askP (d0.1 79) s = P := hP
  rw [hPa] at hb ⊢
  clear hP hPa
  refine Eq.trans key ?_
  obtain ⟨m, q⟩ := P
  show (if qr q = (-4 : Int32) then (some ((-4 : Int32), D)) else (if v = 0 then (some ((((10 : Int32) * (qr q / (5 : Int32))) + (qr q - qr q / (5 : Int32) * (5 : Int32))), D)) else (some (nI m, D)))) = some (askV (m, q) v, D)
  unfold askV
  rcases hb with rfl | hb
  · rw [if_pos (show qr 999 = -4 from rfl), if_pos rfl]
  · have hb' : q < 155 := hb
    have e : qr q = nI q := if_neg (by omega)
    rw [e, if_neg (nI_ne4 (by omega)), if_neg (show ¬ (m, q).2 = 999 by show ¬ q = 999; omega), show (5 : Int32) = nI 5 from rfl, nI_mod (by omega) (by omega), nI_div (by omega) (by omega), show (10 : Int32) = nI 10 from rfl, nI_mul, nI_add]
    by_cases hv0 : v = 0
    · rw [if_pos hv0, if_pos hv0]
    · rw [if_neg hv0, if_neg hv0]
