/-! ===== a child's course over weeks ===== -/
theorem rsd_0 (x m : Nat) : rsd x 0 m = x := by unfold rsd; split <;> omega
theorem rsd_it {x j l m : Nat} : rsd (rsd x (j * l) m) l m = rsd x ((j + 1) * l) m := by
  have : (j + 1) * l = j * l + l := Nat.succ_mul j l
  rw [this]
  generalize j * l = q
  unfold rsd
  by_cases h : x < m
  · rw [if_pos h, if_pos h]
    split <;> omega
  · rw [if_neg h, if_neg h, if_neg h]
theorem rsd_mono {x l m i j : Nat} (h : i ≤ j) : rsd x (i * l) m ≤ rsd x (j * l) m := by
  have : i * l ≤ j * l := Nat.mul_le_mul_right l h
  generalize i * l = p at this
  generalize j * l = q at this
  unfold rsd
  split <;> omega
/-- rows with one course of the seasons -/
def Sd (r r' : Rw) : Prop := (∀ s, s < 4 → r (3 * s) = r' (3 * s)) ∧ r 38 = r' 38 ∧ r 39 = r' 39
theorem Sd.rf {r : Rw} : Sd r r := ⟨fun _ _ => rfl, rfl, rfl⟩
theorem Sd.wk {r r' : Rw} (h : Sd r r') (hG : Good r) {o o' : Int32} : Sd (wk o r) (wk o' r') := by
  obtain ⟨h1, h2, h3⟩ := h
  obtain ⟨i, hi, e⟩ := hG.2.1
  have hn : nit r = nit r' := by unfold nit; rw [h2]
  have hn4 : (nit r).toNatClampNeg < 4 := by
    have : (i + 1) % 4 < 4 := Nat.mod_lt _ (by decide)
    rw [nit_nI hi e, nI_clamp (by omega)]
    exact this
  refine ⟨fun s hs => by rw [wk_lo (by omega), wk_lo (by omega)]; exact h1 s hs, ?_, ?_⟩
  · rw [wk_38, wk_38, h3, hn, h2]
  · rw [wk_39, wk_39, h3, ← hn, h1 _ hn4]
def seN (r : Rw) (u : Nat) : Nat := ((wkN u r) 38).toNatClampNeg
/-- weeks with some of them off -/
def wkO (o : Nat → Int32) : Nat → Rw → Rw
  | 0, r => r
  | n + 1, r => wk (o n) (wkO o n r)
theorem wkO_0 (r : Rw) : ∀ n, wkO (fun _ => 0) n r = wkN n r := by
  intro n
  induction n with
  | zero => rfl
  | succ n ih => rw [wkN_succ', ← ih]; rfl
theorem Good.wkO {r : Rw} (hG : Good r) (o : Nat → Int32) : ∀ n, Good (wkO o n r) := by
  intro n
  induction n with
  | zero => exact hG
  | succ n ih => exact ih.wk
theorem wkO_nk {r : Rw} (hG : Good r) (o : Nat → Int32) : ∀ n, nk (wkO o n r) = nk r := by
  intro n
  induction n with
  | zero => rfl
  | succ n ih => exact (wk_nk (hG.wkO o n).1.2).trans ih
theorem wkO_lo {r : Rw} (o : Nat → Int32) {j : Nat} (hj : j < 12) : ∀ n, wkO o n r j = r j := by
  intro n
  induction n with
  | zero => rfl
  | succ n ih => exact (wk_lo hj).trans ih
theorem wkO_sd {r r' : Rw} (hG : Good r) (hG' : Good r') (h : Sd r r') (o : Nat → Int32) : ∀ n, Sd (wkO o n r) (wkN n r') := by
  intro n
  induction n with
  | zero => exact h
  | succ n ih => rw [wkN_succ']; exact ih.wk (hG.wkO o n)
theorem wkO_eq60 {r r' : Rw} (h : Eq60 r r') (hG : Good r) (o : Nat → Int32) : ∀ n, Eq60 (wkO o n r) (wkO o n r') := by
  intro n
  induction n with
  | zero => exact h
  | succ n ih => exact wk_eq60 ih (hG.wkO o n).wok
theorem seN_nI {r : Rw} (hG : Good r) (u : Nat) : (wkN u r) 38 = nI (seN r u) ∧ seN r u < 4 := by
  obtain ⟨i, hi, e⟩ := (hG.wkN u).2.1
  unfold seN
  rw [e, nI_clamp (by omega)]
  exact ⟨rfl, hi⟩
theorem seN_sd {r r' : Rw} (hG : Good r) (hG' : Good r') (h : Sd r r') (u : Nat) : seN r u = seN r' u := by
  have := (wkO_sd hG hG' h (fun _ => 0) u).2.1
  rw [wkO_0] at this
  unfold seN
  rw [this]
/-- lessons so far, lessons taken -/
def cq (S : Nat → Nat) (b t : Nat) : Nat → Nat
  | 0 => 0
  | n + 1 => if cq S b t n < t ∧ S n = b then cq S b t n + 1 else cq S b t n
def cj (S : Nat → Nat) (o : Nat → Int32) (b t : Nat) : Nat → Nat
  | 0 => 0
  | n + 1 => if (cq S b t n < t ∧ S n = b) ∧ o n = 0 then cj S o b t n + 1 else cj S o b t n
theorem cq_le {S : Nat → Nat} {b t : Nat} : ∀ n, cq S b t n ≤ t ∧ cq S b t n ≤ n := by
  intro n
  induction n with
  | zero => exact ⟨Nat.zero_le _, Nat.le_refl _⟩
  | succ n ih => unfold cq; split <;> omega
theorem cj_le {S : Nat → Nat} {o : Nat → Int32} {b t : Nat} : ∀ n, cj S o b t n ≤ cq S b t n := by
  intro n
  induction n with
  | zero => exact Nat.le_refl _
  | succ n ih =>
    show (if (cq S b t n < t ∧ S n = b) ∧ o n = 0 then cj S o b t n + 1 else cj S o b t n) ≤ (if cq S b t n < t ∧ S n = b then cq S b t n + 1 else cq S b t n)
    by_cases h : cq S b t n < t ∧ S n = b
    · rw [if_pos h]
      split <;> omega
    · rw [if_neg h, if_neg (fun q => h q.1)]
      exact ih
theorem cj_0 {S : Nat → Nat} {b t : Nat} : ∀ n, cj S (fun _ => 0) b t n = cq S b t n := by
  intro n
  induction n with
  | zero => rfl
  | succ n ih =>
    show (if (cq S b t n < t ∧ S n = b) ∧ (0 : Int32) = 0 then cj S (fun _ => 0) b t n + 1 else cj S (fun _ => 0) b t n) = (if cq S b t n < t ∧ S n = b then cq S b t n + 1 else cq S b t n)
    by_cases h : cq S b t n < t ∧ S n = b
    · rw [if_pos h, if_pos ⟨h, rfl⟩, ih]
    · rw [if_neg h, if_neg (fun q => h q.1), ih]
theorem cq_congr {S S' : Nat → Nat} {b t : Nat} (h : ∀ u, S u = S' u) : ∀ n, cq S b t n = cq S' b t n := by
  intro n
  induction n with
  | zero => rfl
  | succ n ih => unfold cq; rw [ih, h]
def Ln (S : Nat → Nat) (b : Nat) : Nat → Nat
  | 0 => 0
  | n + 1 => if S n = b then Ln S b n + 1 else Ln S b n
theorem Ln_le {S : Nat → Nat} {b : Nat} : ∀ n, Ln S b n ≤ n := by
  intro n
  induction n with
  | zero => exact Nat.le_refl _
  | succ n ih => unfold Ln; split <;> omega
theorem cq_Ln {S : Nat → Nat} {b t : Nat} : ∀ n, cq S b t n = min t (Ln S b n) := by
  intro n
  induction n with
  | zero => unfold cq Ln; omega
  | succ n ih =>
    unfold cq Ln
    rw [ih]
    by_cases h : S n = b
    · rw [if_pos h]
      split <;> omega
    · rw [if_neg h, if_neg (fun q => h q.2)]
theorem Sn.uniq {r r' : Rw} {s y g m y' g' m' : Nat} (h : Sn r s y g m) (h' : Sn r' s y' g' m') (e : ∀ j, j < 12 → r' j = r j) (hs : s < 4) : g' = g ∧ m' = m := by
  obtain ⟨-, -, -, a1, a2, a3, a4⟩ := h
  obtain ⟨-, -, -, b1, b2, b3, b4⟩ := h'
  rw [e _ (by omega)] at b1 b3
  exact ⟨nI_inj (by omega) (by omega) (b1.symm.trans a1), nI_inj (by omega) (by omega) (b3.symm.trans a3)⟩
/-- a child behind n weeks -/
theorem course {r : Rw} (hG : Good r) {c k b t x a g m : Nat} (hc : c < nk r) (h : Kn r c k b t x a) (hS : 0 < t → ∃ y, Sn r b y g m) (o : Nat → Int32) : ∀ n, ∃ a', Kn (wkO o n r) c k b (t - cq (seN r) b t n) (rsd x (cj (seN r) o b t n * lrnN k g) m) a' := by
  intro n
  induction n with
  | zero =>
    refine ⟨a, ?_⟩
    show Kn r c k b (t - 0) (rsd x (0 * lrnN k g) m) a
    rw [Nat.zero_mul, rsd_0]
    exact h
  | succ n ih =>
    obtain ⟨a', hk⟩ := ih
    have hGn := hG.wkO o n
    have hcn : c < nk (wkO o n r) := by rw [wkO_nk hG]; exact hc
    obtain ⟨e38, h38⟩ := seN_nI hG n
    have e38' : (wkO o n r) 38 = nI (seN r n) := (wkO_sd hG hG Sd.rf o n).2.1.trans e38
    obtain ⟨q1, q2, q3⟩ := kid_num hk h38 e38' hGn.2.2.2.2.2.1 (o n) (wk_kid (off := o n) hcn hGn.1.2)
    show ∃ a', Kn (wk (o n) (wkO o n r)) c k b (t - cq (seN r) b t (n + 1)) (rsd x (cj (seN r) o b t (n + 1) * lrnN k g) m) a'
    by_cases hq : cq (seN r) b t n < t ∧ seN r n = b
    · have e1 : cq (seN r) b t (n + 1) = cq (seN r) b t n + 1 := if_pos hq
      obtain ⟨y', g', m', hs', hk'⟩ := q3 (by omega) hq.2.symm
      obtain ⟨y, hs⟩ := hS (by omega)
      obtain ⟨u1, u2⟩ := hs.uniq hs' (fun j hj => wkO_lo o hj n) (by rw [← hq.2]; exact h38)
      subst u1 u2
      refine ⟨min 999 (a' + 1), ?_⟩
      rw [e1]
      have e2 : (if o n = 0 then rsd (rsd x (cj (seN r) o b t n * lrnN k g') m') (lrnN k g') m' else rsd x (cj (seN r) o b t n * lrnN k g') m') = rsd x (cj (seN r) o b t (n + 1) * lrnN k g') m' := by
        by_cases ho : o n = 0
        · rw [if_pos ho, rsd_it, show cj (seN r) o b t (n + 1) = cj (seN r) o b t n + 1 from if_pos ⟨hq, ho⟩]
        · rw [if_neg ho, show cj (seN r) o b t (n + 1) = cj (seN r) o b t n from if_neg (fun z => ho z.2)]
      rw [e2] at hk'
      rw [show t - (cq (seN r) b t n + 1) = t - cq (seN r) b t n - 1 by omega]
      exact hk'
    · have e1 : cq (seN r) b t (n + 1) = cq (seN r) b t n := if_neg hq
      have e2 : cj (seN r) o b t (n + 1) = cj (seN r) o b t n := if_neg (fun z => hq z.1)
      rw [e1, e2]
      rcases Nat.eq_zero_or_pos (t - cq (seN r) b t n) with h0 | h0
      · exact ⟨_, q2 h0⟩
      · exact ⟨_, q1 (fun z => by
          rcases z with z | z
          · omega
          · exact hq ⟨by omega, z.symm⟩)⟩
/-! ===== term ===== -/
def teR (r : Rw) (c t : Nat) : Rw := upd r (12 + 5 * c + 2) (nI t)
section TE
variable {r : Rw} {c k b t x a g m y : Nat}
theorem teR_kn (h : Kn r c k b t x a) (ht : 0 < t) {t' : Nat} (h1 : 1 ≤ t') (h2 : t' ≤ 99) : Kn (teR r c t') c k b t' x a := by
  obtain ⟨e0, hk, e2, -, hb, e3, hx, e4, ha⟩ := h
  unfold teR
  refine ⟨by rw [upd_n (by omega)]; exact e0, hk, upd_s, h2, ?_, by rw [upd_n (by omega)]; exact e3, hx, by rw [upd_n (by omega)]; exact e4, ha⟩
  rw [upd_n (by omega)]
  rcases hb with hb | hb
  · omega
  · exact Or.inr ⟨by omega, hb.2⟩
theorem teR_good (hG : Good r) (hc : c < nk r) (h : Kn r c k b t x a) (ht : 0 < t) {t' : Nat} (h1 : 1 ≤ t') (h2 : t' ≤ 99) : Good (teR r c t') :=
  hG.kid hc (fun j hj => upd_n (by omega)) (teR_kn h ht h1 h2).gk
theorem teR_sd {t' : Nat} (h5 : c < 5) : Sd (teR r c t') r := ⟨fun s hs => upd_n (by omega), upd_n (by omega), upd_n (by omega)⟩
theorem teR_course (hG : Good r) (hc : c < nk r) (h : Kn r c k b t x a) (ht : 0 < t) (hS : Sn r b y g m) {t' : Nat} (h1 : 1 ≤ t') (h2 : t' ≤ 99) (n : Nat) : ∃ a', Kn (wkN n (teR r c t')) c k b (t' - min t' (Ln (seN r) b n)) (rsd x (min t' (Ln (seN r) b n) * lrnN k g) m) a' := by
  have h5 := hG.1.2
  have hG' := teR_good hG hc h ht h1 h2
  have hS' : Sn (teR r c t') b y g m := by
    have hb := (h.bd ht).2
    obtain ⟨a1, a2, a3, a4, a5, a6, a7⟩ := hS
    unfold teR
    exact ⟨by rw [upd_n (by omega)]; exact a1, a2, a3, by rw [upd_n (by omega)]; exact a4, a5, by rw [upd_n (by omega)]; exact a6, a7⟩
  have hnk : nk (teR r c t') = nk r := by unfold nk teR; rw [upd_n (by omega)]
  obtain ⟨a', hk⟩ := course hG' (by rw [hnk]; exact hc) (teR_kn h ht h1 h2) (fun _ => ⟨y, hS'⟩) (fun _ => 0) n
  rw [wkO_0, cj_0, cq_congr (fun u => seN_sd hG' hG (teR_sd (by omega)) u), cq_Ln] at hk
  exact ⟨a', hk⟩
end TE
theorem Kn.sk {r : Rw} {c k b t x a : Nat} (h : Kn r c k b t x a) : r (12 + 5 * c + 3) = nI x ∧ x ≤ 99 := ⟨h.2.2.2.2.2.1, h.2.2.2.2.2.2.1⟩
theorem Kn.te {r : Rw} {c k b t x a : Nat} (h : Kn r c k b t x a) : r (12 + 5 * c + 2) = nI t ∧ t ≤ 99 := ⟨h.2.2.1, h.2.2.2.1⟩
theorem x_term_L {r : Rw} {c k b t x a g m y : Nat} (hG : Good r) (hc : c < nk r) (h : Kn r c k b t x a) (ht : 0 < t) (hS : Sn r b y g m) {n v : Nat} (hn : n ≤ 60) (hv : v ≤ 99) : ∀ (f u : Nat) (d : Dt), u ≤ n → n - u < f → RW d 18 (wkN u (teR r c 99)) → (∀ j, j < Ln (seN r) b u → rsd x (j * lrnN k g) m < v) → ∃ z D, Bw 18 d D ∧ f_X8_term_L80 L0 0 (nI n) (nI v) (18 + 10 + c) f (nI u) d = some (z, D) ∧ ((rsd x (Ln (seN r) b n * lrnN k g) m < v ∧ z = -4) ∨ (∃ j, j ≤ Ln (seN r) b n ∧ v ≤ rsd x (j * lrnN k g) m ∧ (∀ i, i < j → rsd x (i * lrnN k g) m < v) ∧ z = nI (max 1 j))) := by
  have h5 := hG.1.2
  have hG99 := teR_good hG hc h ht (t' := 99) (by omega) (by omega)
  have hnk : nk (teR r c 99) = nk r := by unfold nk teR; rw [upd_n (by omega)]
  have mono : ∀ u w, u ≤ w → Ln (seN r) b u ≤ Ln (seN r) b w := by
    intro u w huw
    induction w with
    | zero => rw [show u = 0 by omega]; exact Nat.le_refl _
    | succ w ih =>
      by_cases e : u = w + 1
      · rw [e]; exact Nat.le_refl _
      · have := ih (by omega)
        show _ ≤ (if seN r w = b then Ln (seN r) b w + 1 else Ln (seN r) b w)
        split <;> omega
  intro f
  induction f with
  | zero => intro u d h1 h2; omega
  | succ f ih =>
    intro u d h1 h2 hR hlt
    obtain ⟨a', hk⟩ := teR_course hG hc h ht hS (t' := 99) (by omega) (by omega) u
    have hL := Ln_le (S := seN r) (b := b) u
    rw [show min 99 (Ln (seN r) b u) = Ln (seN r) b u by omega] at hk
    have hcu : c < nk (wkN u (teR r c 99)) := by rw [wkN_nk (by omega), hnk]; exact hc
    have hK := hR.2.2.1 c hcu
    have e3 : d.1 (18 + 10 + c) 3 = nI (rsd x (Ln (seN r) b u * lrnN k g) m) := hK.2.2.1.trans hk.sk.1
    have e2 : d.1 (18 + 10 + c) 2 = nI (99 - Ln (seN r) b u) := hK.2.1.trans hk.te.1
    have hs99 := hk.sk.2
    have hfin : jmax 1 (99 - d.1 (18 + 10 + c) 2) = nI (max 1 (Ln (seN r) b u)) := by
      rw [e2, show (99 : Int32) = nI 99 from rfl, nI_sub (by omega), show (1 : Int32) = nI 1 from rfl, jmax_nI (by omega) (by omega)]
      congr 2
      omega
    unfold f_X8_term_L80
    rw [W_ccl isW18 (by omega), if_pos rfl, if_pos rfl, hfin, e3]
    by_cases hle : v ≤ rsd x (Ln (seN r) b u * lrnN k g) m
    · have q : nI v ≤ nI (rsd x (Ln (seN r) b u * lrnN k g) m) := nI_le hle (by omega)
      rw [if_pos q, if_pos q]
      refine ⟨nI (max 1 (Ln (seN r) b u)), d, Bw.rf, ?_, Or.inr ⟨_, mono u n h1, hle, hlt, rfl⟩⟩
      split <;> rfl
    · have q : ¬ nI v ≤ nI (rsd x (Ln (seN r) b u * lrnN k g) m) := fun z => hle ((nI_leI (by omega) (by omega)).mp z)
      rw [if_neg q, if_neg q]
      by_cases hu : u < n
      · rw [if_neg (fun q => by have := (nI_leI (a := n) (b := u) (by omega) (by omega)).mp q; omega), X_trial, Option.bind_some, W_cls isW18, if_pos rfl]
        obtain ⟨d1, e1, hR1, hB1⟩ := x_passOne isW18 (hG99.wkN u) hR
        rw [← wkN_succ'] at hR1
        obtain ⟨z, D, hD, hq, hz⟩ := ih (u + 1) d1 (by omega) (by omega) hR1 (fun j hj => by
          have : Ln (seN r) b (u + 1) ≤ Ln (seN r) b u + 1 := by
            show (if seN r u = b then Ln (seN r) b u + 1 else Ln (seN r) b u) ≤ _
            split <;> omega
          by_cases e : j = Ln (seN r) b u
          · rw [e]; omega
          · exact hlt j (by omega))
        refine ⟨z, D, hB1.tr hD, ?_, hz⟩
        rw [e1, Option.bind_some, nI_1, hq]
      · have : u = n := by omega
        subst this
        rw [if_pos ((nI_leI (by omega) (by omega)).mpr (by omega))]
        exact ⟨-4, d, Bw.rf, rfl, Or.inl ⟨by omega, rfl⟩⟩
theorem m_term_L {d0 : Dt} (hI : Inv d0) {c k b t x a g m y : Nat} (hc : c < nk (d0.1 79)) (h : Kn (d0.1 79) c k b t x a) (ht : 0 < t) (hS : Sn (d0.1 79) b y g m) {n v : Nat} (hn : n ≤ 60) (hv : v ≤ 99) : ∀ (f t' : Nat) (d : Dt), 1 ≤ t' → t' ≤ 100 → 100 - t' < f → Sc d0 d → (∀ i, 1 ≤ i → i < t' → rsd x (min i (Ln (seN (d0.1 79)) b n) * lrnN k g) m < v) → ∃ z D, Sc d0 D ∧ f_X9_term_L38 L0 78 (nI c) (nI n) (nI v) f (nI t') d = some (z, D) ∧ (((∀ i, 1 ≤ i → i < 100 → rsd x (min i (Ln (seN (d0.1 79)) b n) * lrnN k g) m < v) ∧ z = -4) ∨ (∃ i, 1 ≤ i ∧ i ≤ 99 ∧ v ≤ rsd x (min i (Ln (seN (d0.1 79)) b n) * lrnN k g) m ∧ (∀ i', 1 ≤ i' → i' < i → rsd x (min i' (Ln (seN (d0.1 79)) b n) * lrnN k g) m < v) ∧ z = nI i)) := by
  have hG := hI.2.1
  have h5 := hG.1.2
  intro f
  induction f with
  | zero => intro t' d h0 h1 h2; omega
  | succ f ih =>
    intro t' d h0 h1 h2 hSc hlt
    unfold f_X9_term_L38
    by_cases ht' : t' < 100
    · obtain ⟨e1, g1, hE1, hB1⟩ := m_putE (d := sd d) (sd_e hSc) (c := c) (by omega) (k := 2) (by omega) (nI t')
      obtain ⟨e2, g2, hE2, hB2⟩ := m_wkN (n := n) (r := teR (d0.1 79) c t') hE1 (teR_good hG hc h ht h0 (by omega)) (by omega)
      obtain ⟨a', hk⟩ := teR_course hG hc h ht hS (t' := t') h0 (by omega) n
      have hs99 := hk.sk.2
      rw [if_neg (fun q => by have := (nI_ltI (a := 99) (b := t') (by omega) (by omega)).mp q; omega), M_cls, if_pos rfl, sd_st, Option.bind_some, show f_X9_becomesOf L0 (sd d) 78 (nI c) (2 : Int32) (nI t') = _ from g1, Option.bind_some, g2, Option.bind_some, show f_X9_of L0 e2 78 (nI c) (3 : Int32) = _ from m_ofr (k := 3) hE2 (by omega) (by omega), Option.bind_some, hk.sk.1]
      have hSc2 := hSc.tr ((sd_bn.tr hB1).tr hB2).sc
      by_cases hle : v ≤ rsd x (min t' (Ln (seN (d0.1 79)) b n) * lrnN k g) m
      · rw [if_neg (nI_nlt hle (by omega))]
        exact ⟨nI t', e2, hSc2, rfl, Or.inr ⟨t', h0, by omega, hle, hlt, rfl⟩⟩
      · rw [if_pos (nI_lt (by omega) (by omega)), nI_1]
        exact ih (t' + 1) e2 (by omega) (by omega) (by omega) hSc2 (fun i i1 i2 => by
          by_cases e : i = t'
          · rw [e]; omega
          · exact hlt i i1 (by omega))
    · have : t' = 100 := by omega
      subst this
      rw [if_pos (by decide)]
      exact ⟨-4, d, hSc, rfl, Or.inl ⟨hlt, rfl⟩⟩
theorem st_term {d : Dt} (hI : Inv d) (a1 a2 a3 : Int32) : ∃ (z1 : Int32 × Dt) (z2 : Int32 × Dt), f_X8_term L0 d 0 a1 a2 a3 = some z1 ∧ f_X9_term L0 z1.2 78 a1 a2 a3 = some z2 ∧ z1.1 = z2.1 ∧ Inv z2.2 := by
  obtain ⟨hR, hG, -⟩ := id hI
  have h5 := hG.1.2
  by_cases h : f_X8_within a1 0 (d.1 79 37 - 1) = 0
  · exact ⟨(-1, d), (-1, d), by unfold f_X8_term; rw [X_world, Option.bind_some, W_cls isW3, if_pos rfl, x_has isW3 hR, Option.bind_some, if_pos h], by unfold f_X9_term; rw [M_cls, if_pos rfl, m_isChild, Option.bind_some, if_pos h], rfl, hI⟩
  by_cases h2 : f_X8_isRun a2 = 0
  · exact ⟨(-1, d), (-1, d), by unfold f_X8_term; rw [X_world, Option.bind_some, W_cls isW3, if_pos rfl, x_has isW3 hR, Option.bind_some, if_neg h, if_pos h2], by unfold f_X9_term; rw [M_cls, if_pos rfl, m_isChild, Option.bind_some, if_neg h, m_isFar, if_pos h2], rfl, hI⟩
  by_cases h3 : f_X8_within a3 0 99 = 0
  · exact ⟨(-1, d), (-1, d), by unfold f_X8_term; rw [X_world, Option.bind_some, W_cls isW3, if_pos rfl, x_has isW3 hR, Option.bind_some, if_neg h, if_neg h2, if_pos h3], by unfold f_X9_term; rw [M_cls, if_pos rfl, m_isChild, Option.bind_some, if_neg h, m_isFar, if_neg h2, m_isSkill, if_pos h3], rfl, hI⟩
  have h' := h
  rw [hG.1.1] at h'
  obtain ⟨c, hc, rfl⟩ := (has_iff (by omega)).mp h'
  obtain ⟨n, hn, rfl⟩ := run_iff.mp h2
  obtain ⟨v, hv, rfl⟩ := (wi0_iff 99 (by omega)).mp h3
  by_cases hb : d.1 79 (12 + 5 * c + 1) = -4
  · refine ⟨(-2, d), (-2, d), ?_, ?_, rfl, hI⟩
    · unfold f_X8_term
      rw [X_world, Option.bind_some, W_cls isW3, if_pos rfl, x_has isW3 hR, Option.bind_some, if_neg h, if_neg h2, if_neg h3, W_ch isW3, Option.bind_some, W_rac isW3 (by omega), Option.bind_some, W_ccl isW3 (by omega), if_pos rfl, x_isFree isW3 hR hG hc, if_pos hb, Option.bind_some, if_neg one_ne]
    · unfold f_X9_term
      rw [M_cls, if_pos rfl, m_isChild, Option.bind_some, if_neg h, m_isFar, if_neg h2, m_isSkill, if_neg h3, m_isBound (by omega), if_pos hb, Option.bind_some, if_pos rfl]
  obtain ⟨k, b, t, x, a, hk⟩ := (hG.2.2.2.2.2.2.1 c hc).kn
  have ht : 0 < t := by
    rcases Nat.eq_zero_or_pos t with h0 | h0
    · exact absurd (hk.fr h0) hb
    · exact h0
  obtain ⟨y, g, m, hs⟩ := (hG.2.2.2.2.2.1 b (hk.bd ht).2).sn
  obtain ⟨d0, e0, hR0, hB0⟩ := x_cp hI
  have hRt : RW (pI d0 (18 + 10 + c) 2 99) 18 (wkN 0 (teR (d.1 79) c 99)) := by
    obtain ⟨q0, q2, q3, q4, q1, qs⟩ := hR0.2.2.1 c hc
    show RW _ 18 (teR (d.1 79) c 99)
    unfold teR
    refine hR0.kid h5 hc (fun a ha => pI_ne ha) (fun j hj => upd_n (by omega)) ⟨by rw [pk (by decide), upd_n (by omega)]; exact q0, by rw [ps, upd_s]; rfl, by rw [pk (by decide), upd_n (by omega)]; exact q3, by rw [pk (by decide), upd_n (by omega)]; exact q4, fun _ => ?_, by rw [pk (by decide)]; exact qs⟩
    rw [pk (by decide), upd_n (by omega)]
    refine q1 ?_
    rw [hk.te.1]
    exact nI_ne0 ht (by have := hk.te.2; omega)
  obtain ⟨z, D, hBD, hq, hz⟩ := x_term_L hG hc hk ht hs hn hv FU 0 _ (by omega) (by unfold FU; omega) hRt (fun j hj => by have : Ln (seN (d.1 79)) b 0 = 0 := rfl; omega)
  have hS1 : Sc d D := Sc.bw ((hB0.tr (Bw.pI (by omega))).tr hBD)
  obtain ⟨z', D', hS2, hq', hz'⟩ := m_term_L hI hc hk ht hs hn hv FU 1 D (by omega) (by omega) (by unfold FU; omega) hS1 (fun i i1 i2 => by omega)
  refine ⟨(z, D), (z', D'), ?_, ?_, ?_, hI.mv hS2⟩
  · unfold f_X8_term
    rw [X_world, Option.bind_some, W_cls isW3, if_pos rfl, x_has isW3 hR, Option.bind_some, if_neg h, if_neg h2, if_neg h3, W_ch isW3, Option.bind_some, W_rac isW3 (by omega), Option.bind_some, W_ccl isW3 (by omega), if_pos rfl, x_isFree isW3 hR hG hc, if_neg hb, Option.bind_some, if_pos rfl, X_trial, Option.bind_some, W_cls isW18, if_pos rfl, e0, Option.bind_some, W_ch isW18, Option.bind_some, W_rac isW18 (by omega), Option.bind_some, W_ccl isW18 (by omega), if_pos rfl]
    exact hq
  · show f_X9_term L0 D 78 (nI c) (nI n) (nI v) = _
    unfold f_X9_term
    rw [M_cls, if_pos rfl, m_isChild, Option.bind_some, hS1.e79, if_neg h, m_isFar, if_neg h2, m_isSkill, if_neg h3, m_isBound (by omega), hS1.e79, if_neg hb, Option.bind_some, if_neg one_ne]
    exact hq'
  · show z = z'
    have hLn := Ln_le (S := seN (d.1 79)) (b := b) n
    generalize hLL : Ln (seN (d.1 79)) b n = L at *
    have mo : ∀ i j, i ≤ j → rsd x (i * lrnN k g) m ≤ rsd x (j * lrnN k g) m := fun i j hij => rsd_mono hij
    rcases hz with ⟨z1, z2⟩ | ⟨j, j1, j2, j3, j4⟩
    · rcases hz' with ⟨w1, w2⟩ | ⟨i, i1, i2, i3, i4, i5⟩
      · rw [z2, w2]
      · have := mo (min i L) L (by omega)
        omega
    · rcases hz' with ⟨w1, w2⟩ | ⟨i, i1, i2, i3, i4, i5⟩
      · have := w1 (max 1 j) (by omega) (by omega)
        have := mo j (min (max 1 j) L) (by omega)
        omega
      · rw [j4, i5]
        congr 1
        rcases Nat.lt_trichotomy (max 1 j) i with q | q | q
        · have := i4 (max 1 j) (by omega) q
          have := mo j (min (max 1 j) L) (by omega)
          omega
        · exact q
        · have := j3 (min i L) (by omega)
          omega
