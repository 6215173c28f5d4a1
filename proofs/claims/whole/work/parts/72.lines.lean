/-! ===== text: what a line says ===== -/
theorem sk_all {P : Nat → Bool} : ∀ k p i, p ≤ i → i < sk P k p → P i = true := by
  intro k
  induction k with
  | zero => intro p i h1 h2; exact absurd (show i < p from h2) (by omega)
  | succ k ih =>
    intro p i h1 h2
    by_cases hP : P p = true
    · have h2 : i < (if P p = true then sk P k (p + 1) else p) := h2
      rw [if_pos hP] at h2
      by_cases e : i = p
      · rw [e]; exact hP
      · exact ih (p + 1) i (by omega) h2
    · have h2 : i < (if P p = true then sk P k (p + 1) else p) := h2
      rw [if_neg hP] at h2
      omega
theorem sk_at {P : Nat → Bool} {n j : Nat} (hj : j < n) (hP : ¬ P j = true) : ∀ p, p ≤ j → (∀ i, p ≤ i → i < j → P i = true) → sk P (n - p) p = j := by
  have key : ∀ k p, j - p = k → p ≤ j → (∀ i, p ≤ i → i < j → P i = true) → sk P (n - p) p = j := by
    intro k
    induction k with
    | zero =>
      intro p h1 h2 h3
      have : p = j := by omega
      subst this
      rw [sk_succ hj, if_neg hP]
    | succ k ih =>
      intro p h1 h2 h3
      rw [sk_succ (by omega), if_pos (h3 p (by omega) (by omega))]
      exact ih (p + 1) (by omega) (by omega) (fun i a c => h3 i (by omega) c)
  intro p h1 h2
  exact key _ p rfl h1 h2
theorem sk_no {P : Nat → Bool} {n : Nat} (hP : ∀ i, i < n → P i = true) : ∀ p, p ≤ n → sk P (n - p) p = n := by
  have key : ∀ k p, n - p = k → p ≤ n → sk P (n - p) p = n := by
    intro k
    induction k with
    | zero =>
      intro p h1 h2
      rw [sk_end (by omega)]
      omega
    | succ k ih =>
      intro p h1 h2
      rw [sk_succ (by omega), if_pos (hP p (by omega))]
      exact ih (p + 1) (by omega) (by omega)
  intro p h
  exact key _ p rfl h
def nx (φ : Nat × Nat) (c q : Nat) : Nat × Nat := if φ.1 = 0 then (c, q) else φ
theorem nx_z {q c' q' : Nat} : nx (0, q) c' q' = (c', q') := rfl
theorem nx_c {c q c' q' : Nat} (h : ¬ c = 0) : nx (c, q) c' q' = (c, q) := if_neg h
theorem nx_f {φ : Nat × Nat} {c q : Nat} (h : ¬ φ.1 = 0) : nx φ c q = φ := if_neg h
theorem nx_0 {φ : Nat × Nat} {c q : Nat} (h : φ.1 = 0) : nx φ c q = (c, q) := if_pos h
theorem nx_1 {φ : Nat × Nat} {c q : Nat} (h : (nx φ c q).1 = 0) : φ.1 = 0 ∧ c = 0 := by
  by_cases e : φ.1 = 0
  · rw [nx_0 e] at h; exact ⟨e, h⟩
  · rw [nx_f e] at h; exact absurd h e
def cN (b : Nat → Nat) (n lo hi p : Nat) : Nat := if tK b n p = 1 then 1 else if tK b n p = 3 then (if lo ≤ tV b n p ∧ tV b n p ≤ hi then 0 else 3) else 2
def cS (b : Nat → Nat) (n p : Nat) : Nat := if tK b n p = 1 then 1 else if tK b n p = 4 then 0 else 2
def cC (b : Nat → Nat) (n p : Nat) : Nat := if cN b n 0 9 p = 0 then (if tV b n p < 4 ∨ tV b n p = 9 then 0 else 3) else cN b n 0 9 p
def nA (b : Nat → Nat) (s e l c0 c1 c2 c3 : Nat) : Bool := decide (e - s = l ∧ b s = c0 ∧ b (s + 1) = c1 ∧ b (s + 2) = c2 ∧ b (s + 3) = c3)
def nE1 (b : Nat → Nat) (s c : Nat) : Bool := decide (b (s + 4) = c)
def nE2 (b : Nat → Nat) (s c c' : Nat) : Bool := decide (b (s + 4) = c ∧ b (s + 5) = c')
def wd (b : Nat → Nat) (s e : Nat) : Nat → Bool
  | 0 => nA b s e 6 115 112 114 105 && nE2 b s 110 103
  | 1 => nA b s e 6 115 117 109 109 && nE2 b s 101 114
  | 2 => nA b s e 6 97 117 116 117 && nE2 b s 109 110
  | 3 => nA b s e 6 119 105 110 116 && nE2 b s 101 114
  | 4 => nA b s e 5 112 108 97 105 && nE1 b s 110
  | 5 => nA b s e 5 113 117 105 99 && nE1 b s 107
  | 6 => nA b s e 4 115 108 111 119
  | 7 => nA b s e 6 111 114 112 104 && nE2 b s 97 110
  | _ => false
def wdp (b : Nat → Nat) (n p i : Nat) : Bool := decide (tK b n p = 2) && wd b (tS b n p) (tE b n p) i
def li (b : Nat → Nat) (n p : Nat) : Nat := sk (fun i => !(wdp b n p i)) 8 0
def ep1 (b : Nat → Nat) (n p : Nat) : Nat := tE b n p
def ep2 (b : Nat → Nat) (n p : Nat) : Nat := tE b n (ep1 b n p)
def ep3 (b : Nat → Nat) (n p : Nat) : Nat := tE b n (ep2 b n p)
def ep4 (b : Nat → Nat) (n p : Nat) : Nat := tE b n (ep3 b n p)
def seR (r : Rw) (s x y z : Nat) : Rw := upd (upd (upd r (3 * s + 0) (nI x)) (3 * s + 1) (nI y)) (3 * s + 2) (nI z)
def chR (r : Rw) (k s t : Nat) : Rw := if s = 9 then boR r (nI k) else apR (boR r (nI k)) (nI (nk r)) (nI s) (nI t)
def phS (b : Nat → Nat) (n s M p : Nat) : Nat × Nat := nx (nx (nx (nx (if M.testBit (s + 4) = true then 4 else 0, tS b n p) (cN b n 1 9 (ep1 b n p)) (tS b n (ep1 b n p))) (cN b n 0 9 (ep2 b n p)) (tS b n (ep2 b n p))) (cN b n 0 99 (ep3 b n p)) (tS b n (ep3 b n p))) (cS b n (ep4 b n p)) (tS b n (ep4 b n p))
def phC (b : Nat → Nat) (n : Nat) (r : Rw) (p : Nat) : Nat × Nat := nx (nx (nx (if 5 ≤ nk r then 5 else 0, tS b n p) (cC b n (ep1 b n p)) (tS b n (ep1 b n p))) (cN b n 1 99 (ep2 b n p)) (tS b n (ep2 b n p))) (cS b n (ep3 b n p)) (tS b n (ep3 b n p))
def phL (b : Nat → Nat) (n : Nat) (r : Rw) (M p : Nat) : Nat × Nat := if li b n p < 4 then phS b n (li b n p) M p else if li b n p < 8 then phC b n r p else (if tK b n p = 1 then 1 else 2, tS b n p)
def roL (b : Nat → Nat) (n : Nat) (r : Rw) (p : Nat) : Rw := if li b n p < 4 then seR r (li b n p) (tV b n (ep1 b n p)) (tV b n (ep2 b n p)) (tV b n (ep3 b n p)) else chR r (li b n p - 4) (tV b n (ep1 b n p)) (tV b n (ep2 b n p))
def toL (b : Nat → Nat) (n M p : Nat) : Nat := M ||| 2 ^ ((li b n p + 4) % 8)
def poL (b : Nat → Nat) (n p : Nat) : Nat := if li b n p < 4 then tE b n (ep4 b n p) else tE b n (ep3 b n p)
/-- what is so of a draft row -/
def SI (r : Rw) : Prop := Good r ∧ (r 38 = 0 ∧ r 39 = 3 ∧ r 40 = 0 ∧ r 41 = 0) ∧ ∀ j, 12 + 5 * nk r ≤ j → j < 37 → r j = 0
section LNS
variable {b : Nat → Nat} {n : Nat}
theorem tK_le {p : Nat} : tK b n p ≤ 4 := by
  unfold tK
  split
  · omega
  · split
    · omega
    · split
      · split <;> omega
      · split <;> omega
theorem tV_le {p : Nat} (h : tK b n p = 3) : tV b n p ≤ 99 := by
  unfold tK at h
  unfold tV tE
  generalize tS b n p = q at *
  by_cases h1 : n ≤ q
  · rw [if_pos h1] at h; omega
  rw [if_neg h1] at h ⊢
  by_cases h2 : pLe b q = true
  · rw [if_pos h2] at h; omega
  rw [if_neg h2] at h ⊢
  by_cases h3 : pFi b q = true
  · rw [if_pos h3] at h ⊢
    by_cases h4 : sk (pFi b) (n - q) q - q ≤ 2
    · have ha := sk_all (P := pFi b) (n - q) q
      have hd : ∀ i, q ≤ i → i < sk (pFi b) (n - q) q → b i ≤ 57 := fun i a c => (of_decide_eq_true (ha i a c)).2
      generalize sk (pFi b) (n - q) q = t at *
      rcases (show t - q = 0 ∨ t - q = 1 ∨ t - q = 2 by omega) with e | e | e
      · rw [e]; exact Nat.zero_le _
      · rw [e]
        have := hd q (by omega) (by omega)
        show 10 * 0 + b (q + 0) - 48 ≤ 99
        rw [Nat.add_zero]; omega
      · rw [e]
        have h5 := hd q (by omega) (by omega)
        have h6 := hd (q + 1) (by omega) (by omega)
        show 10 * (10 * 0 + b (q + 0) - 48) + b (q + 1) - 48 ≤ 99
        rw [Nat.add_zero]; omega
    · rw [if_neg h4] at h; omega
  · rw [if_neg h3] at h
    split at h <;> omega
theorem cN_le {lo hi p : Nat} : cN b n lo hi p ≤ 3 := by
  unfold cN
  split
  · omega
  · split
    · split <;> omega
    · omega
theorem cN_0 {lo hi p : Nat} (h : cN b n lo hi p = 0) : tK b n p = 3 ∧ lo ≤ tV b n p ∧ tV b n p ≤ hi := by
  unfold cN at h
  split at h
  · omega
  · split at h
    · split at h
      · rename_i a c d; exact ⟨c, d⟩
      · omega
    · omega
theorem cS_le {p : Nat} : cS b n p ≤ 2 := by
  unfold cS
  split
  · omega
  · split <;> omega
theorem cC_le {p : Nat} : cC b n p ≤ 3 := by
  have := cN_le (b := b) (n := n) (lo := 0) (hi := 9) (p := p)
  unfold cC
  split
  · split <;> omega
  · omega
theorem cC_0 {p : Nat} (h : cC b n p = 0) : cN b n 0 9 p = 0 ∧ (tV b n p < 4 ∨ tV b n p = 9) := by
  unfold cC at h
  split at h
  · split at h
    · rename_i a c; exact ⟨a, c⟩
    · omega
  · rename_i a; exact absurd h a
theorem li_le {p : Nat} : li b n p ≤ 8 := (sk_b (P := fun i => !(wdp b n p i)) 8 0).2
theorem li_k {p : Nat} (h : li b n p < 8) : tK b n p = 2 := by
  by_cases h2 : tK b n p = 2
  · exact h2
  · have : li b n p = 8 := sk_no (n := 8) (P := fun i => !(wdp b n p i)) (fun i _ => by
      show (!(wdp b n p i)) = true
      unfold wdp
      rw [decide_eq_false h2]; rfl) 0 (by omega)
    omega
theorem ep_le {p : Nat} (hp : p ≤ n) : ep1 b n p ≤ n ∧ ep2 b n p ≤ n ∧ ep3 b n p ≤ n ∧ ep4 b n p ≤ n ∧ ep1 b n p ≤ ep2 b n p ∧ ep2 b n p ≤ ep3 b n p ∧ ep3 b n p ≤ ep4 b n p := by
  have h1 := tE_le (b := b) hp
  have a1 : ep1 b n p ≤ n := h1.2
  have h2 := tE_le (b := b) a1
  have t2 := tS_le (b := b) a1
  have a2 : ep2 b n p ≤ n := h2.2
  have h3 := tE_le (b := b) a2
  have t3 := tS_le (b := b) a2
  have a3 : ep3 b n p ≤ n := h3.2
  have h4 := tE_le (b := b) a3
  have t4 := tS_le (b := b) a3
  have a4 : ep4 b n p ≤ n := h4.2
  have b1 : ep1 b n p ≤ ep2 b n p := Nat.le_trans t2.1 h2.1
  have b2 : ep2 b n p ≤ ep3 b n p := Nat.le_trans t3.1 h3.1
  have b3 : ep3 b n p ≤ ep4 b n p := Nat.le_trans t4.1 h4.1
  exact ⟨a1, a2, a3, a4, b1, b2, b3⟩
theorem po_le {p : Nat} (hp : p ≤ n) (hl : li b n p < 8) : p < poL b n p ∧ poL b n p ≤ n := by
  have h := ep_le (b := b) hp
  have h0 : p < ep1 b n p := tE_lt hp (by rw [li_k hl]; omega)
  have h3 := tE_le (b := b) h.2.2.1
  have t3 := tS_le (b := b) h.2.2.1
  have h4 := tE_le (b := b) h.2.2.2.1
  have t4 := tS_le (b := b) h.2.2.2.1
  unfold poL
  split <;> omega
/-! rows -/
theorem nk_upd {r : Rw} {j : Nat} {v : Int32} (h : j ≠ 37) : nk (upd r j v) = nk r := by unfold nk; rw [upd_n (fun e => h e.symm)]
theorem boR_ne {r : Rw} {k : Int32} {j : Nat} (h1 : j ≠ 37) (h2 : ¬ (12 + 5 * nk r ≤ j ∧ j < 12 + 5 * nk r + 5)) : boR r k j = r j := by
  unfold boR
  rw [if_neg h1, if_neg (by omega), if_neg (by omega), if_neg (by omega)]
theorem boR_37 {r : Rw} {k : Int32} : boR r k 37 = nI (nk r + 1) := by unfold boR; rw [if_pos rfl]
theorem boR_0 {r : Rw} {k : Int32} (h : nk r < 5) : boR r k (12 + 5 * nk r) = k := by unfold boR; rw [if_neg (by omega), if_pos rfl]
theorem boR_1 {r : Rw} {k : Int32} (h : nk r < 5) : boR r k (12 + 5 * nk r + 1) = -4 := by unfold boR; rw [if_neg (by omega), if_neg (by omega), if_pos rfl]
theorem boR_2 {r : Rw} {k : Int32} (h : nk r < 5) {j : Nat} (h1 : 2 ≤ j) (h2 : j ≤ 4) : boR r k (12 + 5 * nk r + j) = 0 := by unfold boR; rw [if_neg (by omega), if_neg (by omega), if_neg (by omega), if_pos (by omega)]
theorem boR_nk {r : Rw} {k : Int32} (h : nk r < 5) : nk (boR r k) = nk r + 1 := by
  show (boR r k 37).toNatClampNeg = _
  rw [boR_37, nI_clamp (by omega)]
theorem boR_ns {r : Rw} {k : Int32} (h : nk r < 5) : ns (boR r k) = ns r := by unfold ns; rw [boR_ne (by omega) (by omega)]
theorem boR_good {r : Rw} {k : Nat} (hk : k < 4) (hG : Good r) (h : nk r < 5) : Good (boR r (nI k)) := by
  obtain ⟨⟨g1, g1'⟩, g2, g3, g4, ⟨g5, g5'⟩, g6, g7, g8⟩ := hG
  refine ⟨⟨by rw [boR_nk h, boR_37], by rw [boR_nk h]; omega⟩, by rw [boR_ne (by omega) (by omega)]; exact g2, by rw [boR_ne (by omega) (by omega)]; exact g3, trivial, ⟨by rw [boR_ns h, boR_ne (by omega) (by omega)]; exact g5, by rw [boR_ns h]; exact g5'⟩, fun s hs => ?_, fun c hc => ?_, fun i hi => ?_⟩
  · have := g6 s hs
    unfold GS at *
    rw [boR_ne (by omega) (by omega), boR_ne (by omega) (by omega), boR_ne (by omega) (by omega)]
    exact this
  · rw [boR_nk h] at hc
    by_cases e : c = nk r
    · rw [e]
      exact ⟨⟨k, hk, boR_0 h⟩, ⟨0, by omega, boR_2 h (by omega) (by omega), Or.inl ⟨rfl, boR_1 h⟩⟩, ⟨0, by omega, boR_2 h (by omega) (by omega)⟩, ⟨0, by omega, boR_2 h (by omega) (by omega)⟩⟩
    · have := g7 c (by omega)
      unfold GK at *
      rw [boR_ne (by omega) (by omega), boR_ne (by omega) (by omega), boR_ne (by omega) (by omega), boR_ne (by omega) (by omega), boR_ne (by omega) (by omega)]
      exact this
  · rw [boR_ns h] at hi
    rw [boR_nk h, boR_ne (by omega) (by omega), boR_ne (by omega) (by omega), boR_ne (by omega) (by omega)]
    obtain ⟨b1, ⟨c, b2, b3⟩, b4⟩ := g8 i hi
    exact ⟨b1, ⟨c, by omega, b3⟩, b4⟩
theorem apF_ok {r : Rw} {k s t : Nat} (hG : Good r) (h : nk r < 5) (hs : s < 4) (ht1 : 1 ≤ t) (ht2 : t ≤ 99) : (apF (boR r (nI k)) (nI (nk r)) (nI s) (nI t)).2 = apR (boR r (nI k)) (nI (nk r)) (nI s) (nI t) := by
  unfold apF
  rw [boR_37, nI_pred, if_neg (show ¬ f_X8_within (nI (nk r)) 0 (nI (nk r)) = 0 from (wi_iff (a := 0) (b := nk r) (by omega) (by omega)).mpr ⟨nk r, by omega, by omega, rfl⟩), if_neg (seas_iff.mpr ⟨s, hs, rfl⟩), if_neg (show ¬ f_X8_within (nI t) 1 99 = 0 from (wi_iff (a := 1) (b := 99) (by omega) (by omega)).mpr ⟨t, ht1, ht2, rfl⟩), nI_clamp (by omega), if_pos (boR_1 h)]
theorem apR_good {r : Rw} {k s t : Nat} (hG : Good r) (h : nk r < 5) (hk : k < 4) (hs : s < 4) (ht1 : 1 ≤ t) (ht2 : t ≤ 99) : Good (apR (boR r (nI k)) (nI (nk r)) (nI s) (nI t)) := by
  have ec : (nI (nk r)).toNatClampNeg = nk r := nI_clamp (by omega)
  refine (boR_good hk hG h).kid (c := nk r) (by rw [boR_nk h]; omega) (fun j hj => by unfold apR; rw [ec, upd_n (by omega), upd_n (by omega)]) ?_
  unfold apR GK
  rw [ec, upd_n (by omega), upd_n (by omega), upd_s, upd_n (by omega), upd_s, upd_n (by omega), upd_n (by omega), upd_n (by omega), upd_n (by omega), boR_0 h, boR_2 h (by omega) (by omega), boR_2 h (by omega) (by omega)]
  exact ⟨⟨k, hk, rfl⟩, ⟨t, ht2, rfl, Or.inr ⟨by omega, s, hs, rfl⟩⟩, ⟨0, by omega, rfl⟩, ⟨0, by omega, rfl⟩⟩
theorem SI.se {r : Rw} {s x y z : Nat} (h : SI r) (hs : s < 4) (hx : 1 ≤ x ∧ x ≤ 9) (hy : y ≤ 9) (hz : z ≤ 99) : SI (seR r s x y z) := by
  have hne : ∀ j, ¬ (3 * s ≤ j ∧ j < 3 * s + 3) → seR r s x y z j = r j := fun j hj => by unfold seR; rw [upd_n (by omega), upd_n (by omega), upd_n (by omega)]
  have en : nk (seR r s x y z) = nk r := by unfold nk; rw [hne 37 (by omega)]
  refine ⟨h.1.sea hs hne ?_, by rw [hne 38 (by omega), hne 39 (by omega), hne 40 (by omega), hne 41 (by omega)]; exact h.2.1, fun j a c => ?_⟩
  · unfold GS seR
    refine ⟨⟨x, hx.1, hx.2, ?_⟩, ⟨y, hy, ?_⟩, ⟨z, hz, ?_⟩⟩
    · rw [upd_n (by omega), upd_n (by omega), show 3 * s = 3 * s + 0 from rfl, upd_s]
    · rw [upd_n (by omega), upd_s]
    · rw [upd_s]
  · rw [en] at a
    rw [hne j (by omega)]
    exact h.2.2 j a c
theorem SI.ch {r : Rw} {k s t : Nat} (h : SI r) (hk : k < 4) (h5 : nk r < 5) (hs : s < 4 ∨ s = 9) (ht : 1 ≤ t ∧ t ≤ 99) : SI (chR r k s t) := by
  have hb : SI (boR r (nI k)) := by
    refine ⟨boR_good hk h.1 h5, by rw [boR_ne (by omega) (by omega), boR_ne (by omega) (by omega), boR_ne (by omega) (by omega), boR_ne (by omega) (by omega)]; exact h.2.1, fun j a c => ?_⟩
    rw [boR_nk h5] at a
    rw [boR_ne (by omega) (by omega)]
    exact h.2.2 j (by omega) c
  unfold chR
  by_cases e : s = 9
  · rw [if_pos e]; exact hb
  · rw [if_neg e]
    have ec : (nI (nk r)).toNatClampNeg = nk r := nI_clamp (by omega)
    have hne : ∀ j, ¬ (12 + 5 * nk r ≤ j ∧ j < 12 + 5 * nk r + 5) → apR (boR r (nI k)) (nI (nk r)) (nI s) (nI t) j = boR r (nI k) j := fun j hj => by unfold apR; rw [ec, upd_n (by omega), upd_n (by omega)]
    have en : nk (apR (boR r (nI k)) (nI (nk r)) (nI s) (nI t)) = nk (boR r (nI k)) := by show (apR (boR r (nI k)) (nI (nk r)) (nI s) (nI t) 37).toNatClampNeg = _; rw [hne 37 (by omega)]; rfl
    refine ⟨apR_good h.1 h5 hk (by omega) ht.1 ht.2, by rw [hne 38 (by omega), hne 39 (by omega), hne 40 (by omega), hne 41 (by omega)]; exact hb.2.1, fun j a c => ?_⟩
    rw [en] at a
    have a' := a
    rw [boR_nk h5] at a'
    rw [hne j (by omega)]
    exact hb.2.2 j a c
theorem or_lt : ∀ M, M < 256 → ∀ k, k < 8 → M ||| 2 ^ k < 256 := by decide +kernel
theorem ln_ok {r : Rw} {M p : Nat} (h : SI r) (hM : M < 256) (hl : li b n p < 8) (h0 : (phL b n r M p).1 = 0) : SI (roL b n r p) ∧ toL b n M p < 256 := by
  refine ⟨?_, or_lt M hM _ (by omega)⟩
  unfold phL at h0
  unfold roL
  by_cases h4 : li b n p < 4
  · rw [if_pos h4] at h0 ⊢
    unfold phS at h0
    obtain ⟨h0, -⟩ := nx_1 h0
    obtain ⟨h0, c3⟩ := nx_1 h0
    obtain ⟨h0, c2⟩ := nx_1 h0
    obtain ⟨-, c1⟩ := nx_1 h0
    exact h.se h4 (cN_0 c1).2 (cN_0 c2).2.2 (cN_0 c3).2.2
  · rw [if_neg h4, if_pos hl] at h0
    rw [if_neg h4]
    unfold phC at h0
    obtain ⟨h0, -⟩ := nx_1 h0
    obtain ⟨h0, c2⟩ := nx_1 h0
    obtain ⟨h0, c1⟩ := nx_1 h0
    have h5 : nk r < 5 := by
      by_cases q : 5 ≤ nk r
      · rw [if_pos q] at h0; exact absurd h0 (show ¬ (5 : Nat) = 0 by decide)
      · omega
    exact h.ch (by omega) h5 (cC_0 c1).2 (cN_0 c2).2
end LNS
