/-! ===== luck, mean ===== -/
def kN (r : Rw) (c : Nat) : Nat := (r (12 + 5 * c)).toNatClampNeg
def bN (r : Rw) (c : Nat) : Nat := (r (12 + 5 * c + 1)).toNatClampNeg
def tN (r : Rw) (c : Nat) : Nat := (r (12 + 5 * c + 2)).toNatClampNeg
def xN (r : Rw) (c : Nat) : Nat := (r (12 + 5 * c + 3)).toNatClampNeg
def aN (r : Rw) (c : Nat) : Nat := (r (12 + 5 * c + 4)).toNatClampNeg
def gN (r : Rw) (s : Nat) : Nat := (r (3 * s + 1)).toNatClampNeg
def mN (r : Rw) (s : Nat) : Nat := (r (3 * s + 2)).toNatClampNeg
theorem Good.knN {r : Rw} (hG : Good r) {c : Nat} (hc : c < nk r) : Kn r c (kN r c) (bN r c) (tN r c) (xN r c) (aN r c) := by
  obtain ⟨⟨k, hk, e0⟩, ⟨t, ht, e2, h1⟩, ⟨x, hx, e3⟩, ⟨a, ha, e4⟩⟩ := hG.2.2.2.2.2.2.1 c hc
  unfold kN bN tN xN aN
  rw [e0, e2, e3, e4, nI_clamp (by omega), nI_clamp (by omega), nI_clamp (by omega), nI_clamp (by omega)]
  refine ⟨e0, hk, e2, ht, ?_, e3, hx, e4, ha⟩
  rcases h1 with ⟨h0, e1⟩ | ⟨h0, b, hb, e1⟩
  · exact Or.inl ⟨h0, e1⟩
  · rw [e1, nI_clamp (by omega)]
    exact Or.inr ⟨h0, hb, rfl⟩
theorem Good.snN {r : Rw} (hG : Good r) {s : Nat} (hs : s < 4) : ∃ y, Sn r s y (gN r s) (mN r s) := by
  obtain ⟨y, g, m, a1, a2, a3, a4, a5, a6, a7⟩ := (hG.2.2.2.2.2.1 s hs).sn
  unfold gN mN
  rw [a4, a6, nI_clamp (by omega), nI_clamp (by omega)]
  exact ⟨y, a1, a2, a3, a4, a5, a6, a7⟩
theorem Good.snB {r : Rw} (hG : Good r) {c : Nat} (hc : c < nk r) : 0 < tN r c → ∃ y, Sn r (bN r c) y (gN r (bN r c)) (mN r (bN r c)) := fun h => hG.snN ((hG.knN hc).bd h).2
def lN2 (r : Rw) (c : Nat) : Nat := lrnN (kN r c) (gN r (bN r c))
def sN (r : Rw) (c j : Nat) : Nat := rsd (xN r c) (j * lN2 r c) (mN r (bN r c))
def qN (r : Rw) (c n : Nat) : Nat := cq (seN r) (bN r c) (tN r c) n
def jN (r : Rw) (o : Nat → Int32) (c n : Nat) : Nat := cj (seN r) o (bN r c) (tN r c) n
theorem courseN {r : Rw} (hG : Good r) {c : Nat} (hc : c < nk r) (o : Nat → Int32) (n : Nat) : ∃ a', Kn (wkO o n r) c (kN r c) (bN r c) (tN r c - qN r c n) (sN r c (jN r o c n)) a' := course hG hc (hG.knN hc) (hG.snB hc) o n
theorem sk_le {r : Rw} (hG : Good r) {c : Nat} (hc : c < nk r) (o : Nat → Int32) (n : Nat) : sN r c (jN r o c n) ≤ 99 := by
  obtain ⟨a', hk⟩ := courseN hG hc o n
  exact hk.sk.2
theorem x_sbl {d : Dt} {r : Rw} (hR : RW d 3 r) (hG : Good r) {c j : Nat} (hc : c < nk r) (hj : j ≤ 100) (h0 : tN r c = 0 → j = 0) : f_X7_skillBehindLessons L0 d 3 (nI c) (nI j) = some (nI (sN r c j)) := by
  have h5 := hG.1.2
  have hk := hG.knN hc
  have hK := hR.2.2.1 c hc
  obtain ⟨s, hs, es⟩ := hK.2.2.2.2.2
  obtain ⟨y, a1, a2, a3, a4, a5, a6, a7⟩ := hG.snN hs
  obtain ⟨l1, l2, l3⟩ := learn_all (kN r c) hk.2.1 (gN r s) (by omega)
  have hjl : j * lrnN (kN r c) (gN r s) < 10000 := Nat.lt_of_le_of_lt (Nat.mul_le_mul hj l3) (by omega)
  unfold f_X7_skillBehindLessons
  rw [W_ch isW3, Option.bind_some, W_rac isW3 (by omega), Option.bind_some, W_se isW3, Option.bind_some, W_ccl isW3 (by omega), if_pos rfl, es, W_ras isW3 hs, Option.bind_some, W_scl isW3 hs, if_pos rfl, hK.1, hK.2.2.1, (hR.2.1 s hs).2.1, (hR.2.1 s hs).2.2, hk.1, hk.sk.1, a4, a6, l1, nI_mul, raised_nI (by have := hk.sk.2; omega) hjl (by omega)]
  congr 2
  unfold sN lN2
  rcases Nat.eq_zero_or_pos (tN r c) with ht | ht
  · rw [h0 ht, Nat.zero_mul, Nat.zero_mul, rsd_0, rsd_0]
  · have hb : s = bN r c := by
      have hne : ¬ r (12 + 5 * c + 2) = 0 := by rw [hk.te.1]; exact nI_ne0 ht (by have := hk.te.2; omega)
      have e1 := hK.2.2.2.2.1 hne
      have e2 := (hk.bd ht).1
      have : nI s = nI (bN r c) := es.symm.trans (e1.trans e2)
      exact nI_inj (by omega) (by have := (hk.bd ht).2; omega) this
    rw [hb]
theorem x_less {d : Dt} {r : Rw} (hR : RW d 3 r) (hG : Good r) {c n : Nat} (hT : RW d 18 (wkN n r)) (hc : c < nk r) : f_X8_lessonsInTrial L0 d 0 (nI c) = some (nI (qN r c n)) := by
  have h5 := hG.1.2
  have hk := hG.knN hc
  obtain ⟨a', hk'⟩ := courseN hG hc (fun _ => 0) n
  rw [wkO_0] at hk'
  have hcn : c < nk (wkN n r) := by rw [wkN_nk h5]; exact hc
  have hq := (cq_le (S := seN r) (b := bN r c) (t := tN r c) n).1
  unfold f_X8_lessonsInTrial
  rw [X_world, Option.bind_some, W_ch isW3, Option.bind_some, W_rac isW3 (by omega), Option.bind_some, W_ccl isW3 (by omega), if_pos rfl, X_trial, Option.bind_some, W_ch isW18, Option.bind_some, W_rac isW18 (by omega), Option.bind_some, W_ccl isW18 (by omega), if_pos rfl, (hR.2.2.1 c hc).2.1, (hT.2.2.1 c hcn).2.1, hk.te.1, hk'.te.1, nI_sub (by omega)]
  congr 2
  unfold qN at *
  omega
theorem wy_le {v : Nat} (hv : v ≤ 10) : ∀ q j, wy v q j ≤ 10 ^ q := by
  intro q
  induction q with
  | zero => intro j; show (if j = 0 then 1 else 0) ≤ 10 ^ 0; rw [Nat.pow_zero]; split <;> omega
  | succ q ih =>
    intro j
    show wy v q j * v + (if j = 0 then 0 else wy v q (j - 1) * (10 - v)) ≤ 10 ^ (q + 1)
    have h1 := Nat.mul_le_mul_right v (ih j)
    have h2 := Nat.mul_le_mul_right (10 - v) (ih (j - 1))
    have h3 : 10 ^ q * v + 10 ^ q * (10 - v) = 10 ^ (q + 1) := by rw [← Nat.mul_add, show v + (10 - v) = 10 by omega, Nat.pow_succ]
    split <;> omega
theorem sumN_le {f : Nat → Nat} {B : Nat} : ∀ n, (∀ i, i < n → f i ≤ B) → sumN f n ≤ n * B := by
  intro n
  induction n with
  | zero => intro _; exact Nat.zero_le _
  | succ n ih =>
    intro h
    have h1 := ih (fun i hi => h i (by omega))
    have h2 := h n (by omega)
    show sumN f n + f n ≤ (n + 1) * B
    rw [Nat.succ_mul]
    omega
theorem ten8 {q : Nat} (h : q ≤ 8) : 10 ^ q ≤ 100000000 := Nat.pow_le_pow_right (n := 10) (by omega) h
def hBt (v a : Nat) : Nat := if v ≤ a then 1 else 0
theorem lk_b {v q : Nat} (hv : v ≤ 10) (hq : q ≤ 8) (h : Nat → Nat) {B : Nat} (hh : ∀ j, j < q + 1 → h j ≤ B) : sumN (fun j => wy v q j * h j) (q + 1) ≤ 9 * (10 ^ q * B) := by
  have h1 := sumN_le (f := fun j => wy v q j * h j) (B := 10 ^ q * B) (q + 1) (fun i hi => Nat.mul_le_mul (wy_le hv q i) (hh i hi))
  exact Nat.le_trans h1 (Nat.mul_le_mul_right _ (by omega))
theorem x_luck_L {d : Dt} {r : Rw} (hR : RW d 3 r) (hG : Good r) {c v k q : Nat} {v5 : Int32} (hc : c < nk r) (hv : v ≤ 10) (hk : k ≤ 99) (hq : q ≤ 8) (h0 : tN r c = 0 → q = 0) (hw : ∀ j, j < 9 → d.2 39 j = lN (wy v q j)) (hs : ∀ j, j ≤ q → sN r c j ≤ 99) : ∀ (f j : Nat), j ≤ q + 1 → q + 1 - j < f → f_X8_luck_L78 L0 d 0 (nI c) (nI k) v5 (nI q) f (lN (sumN (fun j => wy v q j * hBt k (sN r c j)) j)) (nI j) = some (prt (sumN (fun j => wy v q j * hBt k (sN r c j)) (q + 1)) (10 ^ q) v5, d) := by
  have h10 := ten8 hq
  intro f
  induction f with
  | zero => intro j h1 h2; omega
  | succ f ih =>
    intro j h1 h2
    unfold f_X8_luck_L78
    by_cases hj : j < q + 1
    · have hsj := hs j (by omega)
      rw [if_neg (fun z => by have := (nI_ltI (a := q) (b := j) (by omega) (by omega)).mp z; omega), X_world, Option.bind_some, W_cls isW3, if_pos rfl, x_sbl hR hG hc (by omega) (fun ht => by have := h0 ht; omega), Option.bind_some]
      have ihj := ih (j + 1) (by omega) (by omega)
      have es : sumN (fun j => wy v q j * hBt k (sN r c j)) (j + 1) = sumN (fun j => wy v q j * hBt k (sN r c j)) j + wy v q j * hBt k (sN r c j) := rfl
      rw [es] at ihj
      by_cases hle : k ≤ sN r c j
      · have eb : hBt k (sN r c j) = 1 := if_pos hle
        rw [eb, Nat.mul_one] at ihj
        rw [if_neg (nI_nlt hle (by omega)), X_odds, Option.bind_some, O_cls, if_pos rfl, x_of (by omega), Option.bind_some, hw j (by omega), lN_add, nI_1, ihj]
      · have eb : hBt k (sN r c j) = 0 := if_neg hle
        rw [eb, Nat.mul_zero, Nat.add_zero] at ihj
        rw [if_pos (nI_lt (by omega) (by omega)), nI_1, ihj]
    · have : j = q + 1 := by omega
      subst this
      have hb := lk_b hv hq (fun j => hBt k (sN r c j)) (B := 1) (fun j _ => by show hBt k _ ≤ 1; unfold hBt; split <;> omega)
      rw [if_pos (nI_lt (by omega) (by omega)), x_ten (by omega), Option.bind_some, x_part (by omega) (by omega) (Nat.pow_pos (by omega)), Option.bind_some]
/-! the reference -/
theorem bit_i : ∀ s, s < 256 → ∀ u, u < 8 → ((nI s >>> (nI u &&& 31)) &&& 1 = if s / 2 ^ u % 2 = 1 then 1 else 0) := by decide +kernel
theorem m_pat {n s v : Nat} (hn : n ≤ 8) (hs : s < 256) (hv : v ≤ 10) {r : Rw} (hG : Good r) {v2 v4 : Int32} {K : Int64 → Int32 → Dt → Option Dt} : ∀ (f u : Nat) (d : Dt), u ≤ n → n - u < f → Eq60 (d.1 80) (wkO (ofb s) u r) → ∃ D, Bn d D ∧ Eq60 (D.1 80) (wkO (ofb s) n r) ∧ f_X9_findOdds_L63 L0 78 (nI v) v2 (nI n) v4 (nI s) K f (lN (wt v s u)) (nI u) d = K (lN (wt v s n)) (nI n) D := by
  intro f
  induction f with
  | zero => intro u d h1 h2; omega
  | succ f ih =>
    intro u d h1 h2 hE
    unfold f_X9_findOdds_L63
    by_cases hu : u < n
    · rw [if_neg (fun z => by have := (nI_leI (a := n) (b := u) (by omega) (by omega)).mp z; omega), bit_i s hs u (by omega)]
      obtain ⟨d1, e1, hE1, hB1⟩ := m_wk hE (hG.wkO (ofb s) u) (ofb s u)
      obtain ⟨D, hD, hE2, hq⟩ := ih (u + 1) d1 (by omega) (by omega) hE1
      refine ⟨D, hB1.tr hD, hE2, ?_⟩
      have ew : wt v s (u + 1) = wt v s u * (if s / 2 ^ u % 2 = 1 then v else 10 - v) := rfl
      by_cases hb : s / 2 ^ u % 2 = 1
      · have eo : ofb s u = 1 := if_pos hb
        rw [eo] at e1
        rw [if_pos hb] at ew
        rw [if_pos hb, if_pos rfl]
        unfold f_X9_findOdds_J85
        rw [if_neg one_ne, M_cls, if_pos rfl, e1, Option.bind_some, nI_l (by omega), lN_mul, ← ew, nI_1, hq]
      · have eo : ofb s u = 0 := if_neg hb
        rw [eo] at e1
        rw [if_neg hb] at ew
        rw [if_neg hb, if_neg (show ¬ (0 : Int32) = 1 by decide)]
        unfold f_X9_findOdds_J85
        rw [if_pos rfl, M_cls, if_pos rfl, e1, Option.bind_some, show (10 : Int32) = nI 10 from rfl, nI_sub hv, nI_l (by omega), lN_mul, ← ew, nI_1, hq]
    · have : u = n := by omega
      subst this
      rw [if_pos ((nI_leI (by omega) (by omega)).mpr (by omega))]
      exact ⟨d, Bn.rf, hE, rfl⟩
theorem shl_n : ∀ n, n ≤ 8 → (1 : Int32) <<< (nI n &&& 31) = nI (2 ^ n) := by decide +kernel
theorem fo_sum {f : Nat → Nat} : ∀ (k c a : Nat), fo (fun (s : Int32) i => s + nI (f i)) k c (nI a) = nI (a + sumN (fun i => f (c + i)) k) := by
  intro k
  induction k with
  | zero => intro c a; rfl
  | succ k ih =>
    intro c a
    show fo (fun (s : Int32) i => s + nI (f i)) k (c + 1) (nI a + nI (f c)) = _
    rw [nI_add, ih]
    congr 1
    rw [show k + 1 = 1 + k by omega, sumN_split]
    show a + f c + sumN (fun i => f (c + 1 + i)) k = a + ((0 + f (c + 0)) + sumN (fun i => f (c + (1 + i))) k)
    rw [show (fun i => f (c + (1 + i))) = fun i => f (c + 1 + i) from funext fun i => by rw [Nat.add_assoc]]
    show a + f c + _ = a + ((0 + f c) + _)
    omega
theorem sumK_n {r R : Rw} (hG : Good r) {o : Nat → Int32} {n : Nat} (hR : R = wkO o n r) : sumK 3 R = nI (sumN (fun c => sN r c (jN r o c n)) (nk r)) := by
  subst hR
  unfold sumK
  rw [wkO_nk hG]
  have h1 : fo (fun s i => s + wkO o n r (12 + 5 * i + 3)) (nk r) 0 0 = fo (fun (s : Int32) i => s + nI (sN r i (jN r o i n))) (nk r) 0 (nI 0) := fo_congr (nk r) 0 (nI 0) (fun s i _ hi => by
    obtain ⟨a', hk⟩ := courseN hG (c := i) (by omega) o n
    rw [hk.sk.1])
  rw [h1, fo_sum, Nat.zero_add]
  congr 1
  exact sumN_congr _ (fun i _ => by rw [Nat.zero_add])
/-- what findOdds sums -/
def aF (r : Rw) (n : Nat) (v2 v4 : Int32) (s : Nat) : Nat := if v2 = -4 then 0 else if wkO (ofb s) n r (12 + 5 * v2.toNatClampNeg + 3) < v4 then 0 else 1
def pF (r : Rw) (n s : Nat) : Nat := sumN (fun c => sN r c (jN r (ofb s) c n)) (nk r)
theorem m_odds_L {d0 : Dt} (hI : Inv d0) {n v : Nat} (hn : n ≤ 8) (hv : v ≤ 10) {v2 v4 : Int32} (h2 : v2 = -4 ∨ ∃ c, c < 5 ∧ v2 = nI c) {T : Int64} : ∀ (f s : Nat) (d : Dt), s ≤ 2 ^ n → 2 ^ n - s < f → Sc d0 d → d.2 78 15 = lN (sumN (fun s => wt v s n * aF (d0.1 79) n v2 v4 s) s) → d.2 78 16 = lN (sumN (fun s => wt v s n * pF (d0.1 79) n s) s) → d.2 78 17 = T → ∃ D, Sc d0 D ∧ D.2 78 15 = lN (sumN (fun s => wt v s n * aF (d0.1 79) n v2 v4 s) (2 ^ n)) ∧ D.2 78 16 = lN (sumN (fun s => wt v s n * pF (d0.1 79) n s) (2 ^ n)) ∧ D.2 78 17 = T ∧ f_X9_findOdds_L45 L0 78 (nI v) v2 (nI n) v4 f (nI s) d = some D := by
  have hG := hI.2.1
  have h5 := hG.1.2
  have hp : 2 ^ n ≤ 256 := Nat.pow_le_pow_right (n := 2) (by omega) hn
  intro f
  induction f with
  | zero => intro s d h1 h2; omega
  | succ f ih =>
    intro s d h1 hf hS c15 c16 c17
    unfold f_X9_findOdds_L45
    rw [shl_n n hn]
    by_cases hs : s < 2 ^ n
    · rw [if_neg (fun z => by have := (nI_leI (a := 2 ^ n) (b := s) (by omega) (by omega)).mp z; omega), M_cls, if_pos rfl, sd_st, Option.bind_some]
      obtain ⟨d1, hB1, hE1, hq1⟩ := m_pat (n := n) (s := s) (v := v) hn (by omega) hv hG (v2 := v2) (v4 := v4) (K := fun x15_6 x15_8 d15 => if v2 = -4 then (f_X9_findOdds_J146 L0 d15 (f_X9_findOdds_L45 L0 78 (nI v) v2 (nI n) v4 f) 78 (nI v) v2 (nI n) v4 (nI s) x15_6 (d15.2 78 15) 78) else ((f_X9_of L0 d15 78 v2 3).bind fun z20 => if z20 < v4 then (f_X9_findOdds_J146 L0 d15 (f_X9_findOdds_L45 L0 78 (nI v) v2 (nI n) v4 f) 78 (nI v) v2 (nI n) v4 (nI s) x15_6 (d15.2 78 15) 78) else (f_X9_findOdds_J147 L0 d15 (f_X9_findOdds_L45 L0 78 (nI v) v2 (nI n) v4 f) 78 (nI v) v2 (nI n) v4 (nI s) x15_6 x15_6 (d15.2 78 15) 78))) FU 0 (sd d) (by omega) (by unfold FU; omega) (sd_e hS)
      have hB : Bn d d1 := sd_bn.tr hB1
      have hS1 : Sc d0 d1 := hS.tr hB.sc
      have x15 : d1.2 78 15 = lN (sumN (fun s => wt v s n * aF (d0.1 79) n v2 v4 s) s) := by rw [hB.2]; exact c15
      have x16 : d1.2 78 16 = lN (sumN (fun s => wt v s n * pF (d0.1 79) n s) s) := by rw [hB.2]; exact c16
      have x17 : d1.2 78 17 = T := by rw [hB.2]; exact c17
      have hpf : pF (d0.1 79) n s < 1000 := by
        have := sumN_le (f := fun c => sN (d0.1 79) c (jN (d0.1 79) (ofb s) c n)) (B := 99) (nk (d0.1 79)) (fun i hi => sk_le hG hi _ _)
        have h9 : nk (d0.1 79) * 99 ≤ 5 * 99 := Nat.mul_le_mul_right 99 h5
        unfold pF
        omega
      -- the end of one pattern
      have hJ : ∀ y : Nat, y = wt v s n * aF (d0.1 79) n v2 v4 s → ∃ D, Sc d0 D ∧ D.2 78 15 = lN (sumN (fun s => wt v s n * aF (d0.1 79) n v2 v4 s) (2 ^ n)) ∧ D.2 78 16 = lN (sumN (fun s => wt v s n * pF (d0.1 79) n s) (2 ^ n)) ∧ D.2 78 17 = T ∧ f_X9_findOdds_J147 L0 d1 (f_X9_findOdds_L45 L0 78 (nI v) v2 (nI n) v4 f) 78 (nI v) v2 (nI n) v4 (nI s) (lN (wt v s n)) (lN y) (d1.2 78 15) 78 = some D := by
        intro y hy
        have hsum : f_X9_sumOf L0 (pJ d1 78 15 (d1.2 78 15 + lN y)) 78 (3 : Int32) = some (nI (pF (d0.1 79) n s)) := by
          have e := m_sum (k := 3) (d := pJ d1 78 15 (d1.2 78 15 + lN y)) (r := wkO (ofb s) n (d0.1 79)) hE1 (hG.wkO _ _) (by omega)
          rw [sumK_n hG rfl] at e
          exact e
        obtain ⟨D, g1, g2, g3, g4, g5⟩ := ih (s + 1) (pJ (pJ d1 78 15 (d1.2 78 15 + lN y)) 78 16 (lN (sumN (fun s => wt v s n * pF (d0.1 79) n s) (s + 1)))) (by omega) (by omega) hS1 (by
            rw [jL_n (by omega), jL_s, x15, lN_add, hy]
            rfl) jL_s (by rw [jL_n (by omega), jL_n (by omega)]; exact x17)
        refine ⟨D, g1, g2, g3, g4, ?_⟩
        unfold f_X9_findOdds_J147
        rw [M_cls, if_pos rfl, if_pos rfl, hsum, Option.bind_some, jL_n (show 16 ≠ 15 by omega), x16, nI_l (by omega), lN_mul, lN_add, nI_1]
        exact g5
      rw [show f_X9_findOdds_L63 L0 78 (nI v) v2 (nI n) v4 (nI s) _ FU (1 : Int64) 0 (sd d) = _ from hq1]
      show ∃ D, _ ∧ _ ∧ _ ∧ _ ∧ (if v2 = -4 then (f_X9_findOdds_J146 L0 d1 (f_X9_findOdds_L45 L0 78 (nI v) v2 (nI n) v4 f) 78 (nI v) v2 (nI n) v4 (nI s) (lN (wt v s n)) (d1.2 78 15) 78) else ((f_X9_of L0 d1 78 v2 3).bind fun z20 => if z20 < v4 then (f_X9_findOdds_J146 L0 d1 (f_X9_findOdds_L45 L0 78 (nI v) v2 (nI n) v4 f) 78 (nI v) v2 (nI n) v4 (nI s) (lN (wt v s n)) (d1.2 78 15) 78) else (f_X9_findOdds_J147 L0 d1 (f_X9_findOdds_L45 L0 78 (nI v) v2 (nI n) v4 f) 78 (nI v) v2 (nI n) v4 (nI s) (lN (wt v s n)) (lN (wt v s n)) (d1.2 78 15) 78))) = some D
      unfold f_X9_findOdds_J146
      by_cases hv2 : v2 = -4
      · rw [if_pos hv2]
        exact hJ 0 (by unfold aF; rw [if_pos hv2, Nat.mul_zero])
      · obtain ⟨c, hc, ec⟩ := h2.resolve_left hv2
        have hof : f_X9_of L0 d1 78 v2 (3 : Int32) = some (wkO (ofb s) n (d0.1 79) (12 + 5 * c + 3)) := by rw [ec]; exact m_ofr (k := 3) hE1 hc (by omega)
        have ecc : v2.toNatClampNeg = c := by rw [ec, nI_clamp (by omega)]
        rw [if_neg hv2, hof, Option.bind_some]
        by_cases hlt : wkO (ofb s) n (d0.1 79) (12 + 5 * c + 3) < v4
        · rw [if_pos hlt]
          exact hJ 0 (by unfold aF; rw [if_neg hv2, ecc, if_pos hlt, Nat.mul_zero])
        · rw [if_neg hlt]
          exact hJ (wt v s n) (by unfold aF; rw [if_neg hv2, ecc, if_neg hlt, Nat.mul_one])
    · have : s = 2 ^ n := by omega
      subst this
      rw [if_pos ((nI_leI (by omega) (by omega)).mpr (by omega))]
      exact ⟨d, hS, c15, c16, c17, rfl⟩
theorem m_all_L {d0 : Dt} {n : Nat} (hn : n ≤ 8) {v1 v2 v4 : Int32} {K : Int32 → Dt → Option Dt} : ∀ (f u : Nat) (d : Dt), u ≤ n → n - u < f → d.1 = d0.1 → d.2 78 15 = 0 → d.2 78 16 = 0 → d.2 78 17 = lN (10 ^ u) → ∃ D y, D.1 = d0.1 ∧ D.2 78 15 = 0 ∧ D.2 78 16 = 0 ∧ D.2 78 17 = lN (10 ^ n) ∧ f_X9_findOdds_L18 L0 78 v1 v2 (nI n) v4 K f (nI u) d = K y D := by
  intro f
  induction f with
  | zero => intro u d h1 h2; omega
  | succ f ih =>
    intro u d h1 h2 e1 e15 e16 e17
    unfold f_X9_findOdds_L18
    by_cases hu : u < n
    · rw [if_neg (fun z => by have := (nI_leI (a := n) (b := u) (by omega) (by omega)).mp z; omega), M_cls, if_pos rfl, nI_1]
      exact ih (u + 1) _ (by omega) (by omega) e1 (by rw [jL_n (by omega)]; exact e15) (by rw [jL_n (by omega)]; exact e16) (by rw [jL_s, e17, show (10 : Int64) = lN 10 from rfl, lN_mul, Nat.pow_succ])
    · have : u = n := by omega
      subst this
      rw [if_pos ((nI_leI (by omega) (by omega)).mpr (by omega))]
      exact ⟨d, _, e1, e15, e16, e17, rfl⟩
theorem Sc.e1 {d d' : Dt} (h : d'.1 = d.1) : Sc d d' := ⟨fun _ _ => by rw [h], by rw [h], by rw [h], by rw [h]⟩
theorem m_odds {d0 d : Dt} (hI : Inv d0) (hS : Sc d0 d) {n v : Nat} (hn : n ≤ 8) (hv : v ≤ 10) {v2 v4 : Int32} (h2 : v2 = -4 ∨ ∃ c, c < 5 ∧ v2 = nI c) : ∃ D, Sc d0 D ∧ D.2 78 15 = lN (sumN (fun s => wt v s n * aF (d0.1 79) n v2 v4 s) (2 ^ n)) ∧ D.2 78 16 = lN (sumN (fun s => wt v s n * pF (d0.1 79) n s) (2 ^ n)) ∧ D.2 78 17 = lN (10 ^ n) ∧ f_X9_findOdds L0 d 78 (nI v) v2 (nI n) v4 = some D := by
  have hp : 2 ^ n ≤ 256 := Nat.pow_le_pow_right (n := 2) (by omega) hn
  obtain ⟨d1, y, a1, a15, a16, a17, a5⟩ := m_all_L (d0 := d) (n := n) hn (v1 := nI v) (v2 := v2) (v4 := v4) (K := fun x4_5 d4 => f_X9_findOdds_L45 L0 78 (nI v) v2 (nI n) v4 FU 0 d4) FU 0 (pJ (pJ (pJ d 78 15 (0 : Int64)) 78 16 (0 : Int64)) 78 17 (1 : Int64)) (by omega) (by unfold FU; omega) rfl (by rw [jL_n (by omega), jL_n (by omega), jL_s]) (by rw [jL_n (by omega), jL_s]) (by rw [jL_s]; rfl)
  obtain ⟨D, b1, b2, b3, b4, b5⟩ := m_odds_L hI hn hv h2 (v4 := v4) FU 0 d1 (Nat.zero_le _) (by have := Nat.two_pow_pos n; unfold FU; omega) (hS.tr (Sc.e1 a1)) (by rw [a15]; rfl) (by rw [a16]; rfl) a17
  refine ⟨D, b1, b2, b3, b4, ?_⟩
  unfold f_X9_findOdds
  rw [M_cls, if_pos rfl]
  exact a5.trans b5
theorem isLuck_iff (v0 v1 v2 : Int32) : f_X8_isLuck v0 v1 v2 = if f_X8_within v0 0 10 = 0 then 0 else if f_X8_within v1 0 8 = 0 then 0 else if f_X8_within v2 0 1 = 0 then 0 else 1 := rfl
theorem q_le8 {r : Rw} {c n : Nat} (hn : n ≤ 8) : qN r c n ≤ 8 := by
  have := (cq_le (S := seN r) (b := bN r c) (t := tN r c) n).2
  unfold qN
  omega
theorem q_t0 {r : Rw} {c n : Nat} (h : tN r c = 0) : qN r c n = 0 := by
  have := (cq_le (S := seN r) (b := bN r c) (t := tN r c) n).1
  unfold qN
  omega
theorem s_le {r : Rw} (hG : Good r) {c j : Nat} (hc : c < nk r) (ht : tN r c = 0 → j = 0) : sN r c j ≤ 99 := by
  have hk := hG.knN hc
  unfold sN
  rcases Nat.eq_zero_or_pos (tN r c) with h0 | h0
  · rw [ht h0, Nat.zero_mul, rsd_0]; exact hk.sk.2
  · obtain ⟨y, -, -, -, -, -, -, a7⟩ := hG.snB hc h0
    exact rsd_le hk.sk.2 a7
