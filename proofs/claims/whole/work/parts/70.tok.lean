/-! ===== text: tokens ===== -/
def sk (P : Nat → Bool) : Nat → Nat → Nat
  | 0, p => p
  | k + 1, p => if P p = true then sk P k (p + 1) else p
theorem sk_b {P : Nat → Bool} : ∀ k p, p ≤ sk P k p ∧ sk P k p ≤ p + k := by
  intro k
  induction k with
  | zero => intro p; exact ⟨Nat.le_refl _, Nat.le_refl _⟩
  | succ k ih =>
    intro p
    show p ≤ (if P p = true then sk P k (p + 1) else p) ∧ (if P p = true then sk P k (p + 1) else p) ≤ p + (k + 1)
    have := ih (p + 1)
    split <;> omega
theorem sk_succ {P : Nat → Bool} {n p : Nat} (h : p < n) : sk P (n - p) p = if P p = true then sk P (n - (p + 1)) (p + 1) else p := by
  have : n - p = (n - (p + 1)) + 1 := by omega
  rw [this]
  rfl
theorem sk_end {P : Nat → Bool} {n p : Nat} (h : ¬ p < n) : sk P (n - p) p = p := by
  have : n - p = 0 := by omega
  rw [this]
  rfl
theorem skp_le {P : Nat → Bool} {n p : Nat} (h : p ≤ n) : p ≤ sk P (n - p) p ∧ sk P (n - p) p ≤ n := by
  have := sk_b (P := P) (n - p) p
  omega
def pSp (b : Nat → Nat) (i : Nat) : Bool := decide (b i = 32)
def pLe (b : Nat → Nat) (i : Nat) : Bool := decide (97 ≤ b i ∧ b i ≤ 122)
def pFi (b : Nat → Nat) (i : Nat) : Bool := decide (48 ≤ b i ∧ b i ≤ 57)
def dv (b : Nat → Nat) (s : Nat) : Nat → Nat
  | 0 => 0
  | k + 1 => 10 * dv b s k + b (s + k) - 48
def tS (b : Nat → Nat) (n p : Nat) : Nat := sk (pSp b) (n - p) p
def tE (b : Nat → Nat) (n p : Nat) : Nat := if n ≤ tS b n p then tS b n p else if pLe b (tS b n p) = true then sk (pLe b) (n - tS b n p) (tS b n p) else if pFi b (tS b n p) = true then sk (pFi b) (n - tS b n p) (tS b n p) else tS b n p + 1
def tK (b : Nat → Nat) (n p : Nat) : Nat := if n ≤ tS b n p then 0 else if pLe b (tS b n p) = true then 2 else if pFi b (tS b n p) = true then (if sk (pFi b) (n - tS b n p) (tS b n p) - tS b n p ≤ 2 then 3 else 1) else if b (tS b n p) = 59 then 4 else 1
def tV (b : Nat → Nat) (n p : Nat) : Nat := dv b (tS b n p) (tE b n p - tS b n p)
theorem tS_le {b : Nat → Nat} {n p : Nat} (h : p ≤ n) : p ≤ tS b n p ∧ tS b n p ≤ n := skp_le h
theorem tE_le {b : Nat → Nat} {n p : Nat} (h : p ≤ n) : tS b n p ≤ tE b n p ∧ tE b n p ≤ n := by
  have h1 := tS_le (b := b) h
  have h2 := skp_le (P := pLe b) h1.2
  have h3 := skp_le (P := pFi b) h1.2
  unfold tE
  split
  · omega
  · split
    · omega
    · split <;> omega
theorem tE_lt {b : Nat → Nat} {n p : Nat} (h : p ≤ n) (hk : ¬ tK b n p = 0) : p < tE b n p := by
  have h1 := tS_le (b := b) h
  have hn : ¬ n ≤ tS b n p := fun q => hk (if_pos q)
  unfold tE
  rw [if_neg hn]
  by_cases c1 : pLe b (tS b n p) = true
  · have h2 := skp_le (P := pLe b) (n := n) (p := tS b n p + 1) (by omega)
    rw [if_pos c1, sk_succ (by omega), if_pos c1]; omega
  · rw [if_neg c1]
    by_cases c2 : pFi b (tS b n p) = true
    · have h2 := skp_le (P := pFi b) (n := n) (p := tS b n p + 1) (by omega)
      rw [if_pos c2, sk_succ (by omega), if_pos c2]; omega
    · rw [if_neg c2]; omega
theorem let_all : ∀ c, c < 128 → (f_X6_isLetter (nI c) = 0 ↔ ¬ (97 ≤ c ∧ c ≤ 122)) ∧ (f_X9_in (nI c).toInt64 (97 : Int64) (122 : Int64) = 0 ↔ ¬ (97 ≤ c ∧ c ≤ 122)) := by decide +kernel
theorem fig_all : ∀ c, c < 128 → (f_X6_isFigure (nI c) = 0 ↔ ¬ (48 ≤ c ∧ c ≤ 57)) ∧ (f_X9_in (nI c).toInt64 (48 : Int64) (57 : Int64) = 0 ↔ ¬ (48 ≤ c ∧ c ≤ 57)) := by decide +kernel
theorem in_m1 : f_X9_in (-1 : Int32).toInt64 (97 : Int64) (122 : Int64) = 0 ∧ f_X9_in (-1 : Int32).toInt64 (48 : Int64) (57 : Int64) = 0 := by decide +kernel
/-! the class's tape -/
def TpX (b : Nat → Nat) (n : Nat) (d : Dt) : Prop := n ≤ 160 ∧ (∀ i, i < n → b i ≤ 127 ∧ d.1 2 i = nI (b i)) ∧ d.1 1 1 = nI n
def Ft (d D : Dt) : Prop := (∀ a, a ≠ 1 → D.1 a = d.1 a) ∧ D.1 1 1 = d.1 1 1
theorem Ft.rf {d : Dt} : Ft d d := ⟨fun _ _ => rfl, rfl⟩
theorem Ft.tr {d d' d'' : Dt} (h : Ft d d') (h' : Ft d' d'') : Ft d d'' := ⟨fun a ha => (h'.1 a ha).trans (h.1 a ha), h'.2.trans h.2⟩
theorem Ft.pi {d : Dt} {k : Nat} {v : Int32} (h : k ≠ 1) : Ft d (pI d 1 k v) := ⟨fun a ha => pI_ne ha, pk (fun e => h e.symm)⟩
theorem TpX.mv {b : Nat → Nat} {n : Nat} {d D : Dt} (h : TpX b n d) (f : Ft d D) : TpX b n D := ⟨h.1, fun i hi => ⟨(h.2.1 i hi).1, by rw [f.1 2 (by omega)]; exact (h.2.1 i hi).2⟩, f.2.trans h.2.2⟩
section XT
variable {b : Nat → Nat} {n : Nat}
theorem x_skip {K : Dt → Option Dt} : ∀ (f p : Nat) (d : Dt), p ≤ n → n - p < f → TpX b n d → d.1 1 5 = nI p → ∃ D, f_X6_readToken_L0 L0 1 K f d = K D ∧ Ft d D ∧ D.1 1 5 = nI (tS b n p) := by
  intro f
  induction f with
  | zero => intro p d h1 h2; omega
  | succ f ih =>
    intro p d h1 h2 hX h5
    have hn := hX.1
    unfold f_X6_readToken_L0
    rw [T_cls, if_pos rfl, hX.2.2, h5]
    unfold tS
    by_cases hp : p < n
    · obtain ⟨hb, hc⟩ := hX.2.1 p hp
      rw [if_neg (fun q => by have := (nI_leI (a := n) (b := p) (by omega) (by omega)).mp q; omega), T_by, Option.bind_some, T_ok (by omega), if_pos rfl, nI_clamp (by omega), hc, sk_succ hp]
      by_cases h32 : b p = 32
      · rw [if_pos (show nI (b p) = 32 by rw [h32]; rfl), nI_1, if_pos (show pSp b p = true from decide_eq_true h32)]
        obtain ⟨D, e, F, g⟩ := ih (p + 1) (pI d 1 5 (nI (p + 1))) (by omega) (by omega) (hX.mv (Ft.pi (by decide))) ps
        exact ⟨D, e, (Ft.pi (by decide)).tr F, g⟩
      · rw [if_neg (show ¬ nI (b p) = 32 from fun q => h32 (nI_inj (b := 32) (by omega) (by omega) q)), if_neg (show ¬ pSp b p = true from fun q => h32 (of_decide_eq_true q))]
        exact ⟨d, rfl, Ft.rf, h5⟩
    · rw [if_pos ((nI_leI (by omega) (by omega)).mpr (by omega)), sk_end hp]
      exact ⟨d, rfl, Ft.rf, h5⟩
theorem x_name : ∀ (f p : Nat) (d : Dt), p ≤ n → n - p < f → TpX b n d → d.1 1 5 = nI p → ∃ D, f_X6_readName_L0 L0 1 f d = some D ∧ Ft d D ∧ D.1 1 5 = nI (sk (pLe b) (n - p) p) ∧ D.1 1 2 = 2 ∧ D.1 1 3 = d.1 1 3 := by
  intro f
  induction f with
  | zero => intro p d h1 h2; omega
  | succ f ih =>
    intro p d h1 h2 hX h5
    have hn := hX.1
    unfold f_X6_readName_L0
    rw [T_cls, if_pos rfl, hX.2.2, h5]
    by_cases hp : p < n
    · obtain ⟨hb, hc⟩ := hX.2.1 p hp
      rw [if_neg (fun q => by have := (nI_leI (a := n) (b := p) (by omega) (by omega)).mp q; omega), T_by, Option.bind_some, T_ok (by omega), if_pos rfl, nI_clamp (by omega), hc, sk_succ hp]
      by_cases hl : 97 ≤ b p ∧ b p ≤ 122
      · rw [if_neg (fun q => (let_all (b p) (by omega)).1.mp q hl), nI_1, if_pos (show pLe b p = true from decide_eq_true hl)]
        obtain ⟨D, e, F, g, g2, g3⟩ := ih (p + 1) (pI d 1 5 (nI (p + 1))) (by omega) (by omega) (hX.mv (Ft.pi (by decide))) ps
        exact ⟨D, e, (Ft.pi (by decide)).tr F, g, g2, by rw [g3, pk (by decide)]⟩
      · rw [if_pos ((let_all (b p) (by omega)).1.mpr hl), if_neg (show ¬ pLe b p = true from fun q => hl (of_decide_eq_true q))]
        exact ⟨_, rfl, Ft.pi (by decide), by rw [pk (by decide)]; exact h5, ps, pk (by decide)⟩
    · rw [if_pos ((nI_leI (by omega) (by omega)).mpr (by omega)), sk_end hp]
      exact ⟨_, rfl, Ft.pi (by decide), by rw [pk (by decide)]; exact h5, ps, pk (by decide)⟩
theorem x_nJ {d : Dt} {s q : Nat} (hs : s ≤ q) (hq : q < 1000) (h5 : d.1 1 5 = nI q) (h3 : d.1 1 3 = nI s) : f_X6_readNumber_J68 L0 d 1 = some (pI d 1 2 (nI (if q - s ≤ 2 then 3 else 1))) := by
  unfold f_X6_readNumber_J68
  rw [T_cls, if_pos rfl, h5, h3, nI_sub hs]
  by_cases h : q - s ≤ 2
  · rw [if_pos (show nI (q - s) ≤ 2 from nI_le (b := 2) h (by omega)), if_pos h]; rfl
  · rw [if_neg (show ¬ nI (q - s) ≤ 2 from fun z => h ((nI_leI (b := 2) (by omega) (by omega)).mp z)), if_neg h]; rfl
theorem x_numb {s : Nat} : ∀ (f p : Nat) (d : Dt), s ≤ p → p ≤ n → n - p < f → TpX b n d → d.1 1 5 = nI p → d.1 1 3 = nI s → d.1 1 4 = nI (dv b s (p - s)) → ∃ D, f_X6_readNumber_L5 L0 1 f d = some D ∧ Ft d D ∧ D.1 1 5 = nI (sk (pFi b) (n - p) p) ∧ D.1 1 2 = nI (if sk (pFi b) (n - p) p - s ≤ 2 then 3 else 1) ∧ D.1 1 3 = d.1 1 3 ∧ D.1 1 4 = nI (dv b s (sk (pFi b) (n - p) p - s)) := by
  intro f
  induction f with
  | zero => intro p d h0 h1 h2; omega
  | succ f ih =>
    intro p d h0 h1 h2 hX h5 h3 h4
    have hn := hX.1
    unfold f_X6_readNumber_L5
    rw [T_cls, if_pos rfl, hX.2.2, x_nJ h0 (by omega) h5 h3, h5]
    by_cases hp : p < n
    · obtain ⟨hb, hc⟩ := hX.2.1 p hp
      rw [if_neg (fun q => by have := (nI_leI (a := n) (b := p) (by omega) (by omega)).mp q; omega), T_by, Option.bind_some, T_ok (by omega), if_pos rfl, nI_clamp (by omega), hc, sk_succ hp]
      by_cases hl : 48 ≤ b p ∧ b p ≤ 57
      · have ev : (10 : Int32) * d.1 1 4 + nI (b p) - 48 = nI (dv b s (p + 1 - s)) := by
          rw [h4, show p + 1 - s = (p - s) + 1 by omega]
          show _ = nI (10 * dv b s (p - s) + b (s + (p - s)) - 48)
          rw [show s + (p - s) = p by omega, show (10 : Int32) = nI 10 from rfl, nI_mul, nI_add, show (48 : Int32) = nI 48 from rfl, nI_sub (by omega)]
        rw [if_neg (fun q => (fig_all (b p) (by omega)).1.mp q hl), pk (by decide), h5, nI_1, ev, if_pos (show pFi b p = true from decide_eq_true hl)]
        obtain ⟨D, e, F, g, g2, g3, g4⟩ := ih (p + 1) (pI (pI d 1 4 (nI (dv b s (p + 1 - s)))) 1 5 (nI (p + 1))) (by omega) (by omega) (by omega) (hX.mv ((Ft.pi (by decide)).tr (Ft.pi (by decide)))) ps (by rw [pk (by decide), pk (by decide)]; exact h3) (by rw [pk (by decide), ps])
        exact ⟨D, e, ((Ft.pi (by decide)).tr (Ft.pi (by decide))).tr F, g, g2, by rw [g3, pk (by decide), pk (by decide)], g4⟩
      · rw [if_pos ((fig_all (b p) (by omega)).1.mpr hl), if_neg (show ¬ pFi b p = true from fun q => hl (of_decide_eq_true q))]
        exact ⟨_, rfl, Ft.pi (by decide), by rw [pk (by decide)]; exact h5, ps, pk (by decide), by rw [pk (by decide)]; exact h4⟩
    · rw [if_pos ((nI_leI (by omega) (by omega)).mpr (by omega)), sk_end hp]
      exact ⟨_, rfl, Ft.pi (by decide), by rw [pk (by decide)]; exact h5, ps, pk (by decide), by rw [pk (by decide)]; exact h4⟩
/-- the class's token is the one from p on -/
def CT (b : Nat → Nat) (n : Nat) (D : Dt) (p : Nat) : Prop := D.1 1 2 = nI (tK b n p) ∧ D.1 1 3 = nI (tS b n p) ∧ D.1 1 5 = nI (tE b n p) ∧ (tK b n p = 3 → D.1 1 4 = nI (tV b n p))
theorem x_tok {p : Nat} {d : Dt} (hX : TpX b n d) (h5 : d.1 1 5 = nI p) (hp : p ≤ n) : ∃ D, f_X6_readToken L0 d 1 = some D ∧ Ft d D ∧ CT b n D p := by
  have hn := hX.1
  unfold f_X6_readToken
  obtain ⟨D0, e0, F0, g0⟩ := x_skip (K := fun d6 => f_X6_readToken_J38 L0 d6 1) FU p d hp (by unfold FU; omega) hX h5
  rw [e0]
  have hX0 := hX.mv F0
  have hq := tS_le (b := b) hp
  have hX1 : TpX b n (pI D0 1 3 (nI (tS b n p))) := hX0.mv (Ft.pi (by decide))
  have F1 : Ft d (pI D0 1 3 (nI (tS b n p))) := F0.tr (Ft.pi (by decide))
  have g5 : (pI D0 1 3 (nI (tS b n p))).1 1 5 = nI (tS b n p) := by rw [pk (by decide)]; exact g0
  have g3 : (pI D0 1 3 (nI (tS b n p))).1 1 3 = nI (tS b n p) := ps
  show ∃ D, f_X6_readToken_J38 L0 D0 1 = some D ∧ _
  unfold f_X6_readToken_J38
  rw [T_cls, if_pos rfl, g0, g5, hX1.2.2]
  unfold CT tV tE tK
  generalize hD1 : pI D0 1 3 (nI (tS b n p)) = D1 at *
  generalize hqq : tS b n p = q at *
  by_cases hqn : n ≤ q
  · rw [if_neg (fun z => by have := (nI_ltI (a := q) (b := n) (by omega) (by omega)).mp z; omega), if_pos hqn, if_pos hqn]
    exact ⟨_, rfl, F1.tr (Ft.pi (by decide)), ps, by rw [pk (by decide)]; exact g3, by rw [pk (by decide)]; exact g5, fun z => by omega⟩
  · obtain ⟨hb, hc⟩ := hX1.2.1 q (by omega)
    rw [if_pos (nI_lt (by omega) (by omega)), if_neg hqn, if_neg hqn, T_by, Option.bind_some, T_ok (by omega), if_pos rfl, nI_clamp (by omega), hc]
    by_cases hl : 97 ≤ b q ∧ b q ≤ 122
    · have hl' : pLe b q = true := decide_eq_true hl
      obtain ⟨D, e, F, a5, a2, a3⟩ := x_name FU q D1 (by omega) (by unfold FU; omega) hX1 g5
      rw [if_neg (fun z => (let_all (b q) (by omega)).1.mp z hl), if_pos hl', if_pos hl']
      unfold f_X6_readName
      rw [e, Option.bind_some]
      exact ⟨D, rfl, F1.tr F, a2, by rw [a3]; exact g3, a5, fun z => by omega⟩
    · have hl' : ¬ pLe b q = true := fun z => hl (of_decide_eq_true z)
      rw [if_pos ((let_all (b q) (by omega)).1.mpr hl), if_neg hl', if_neg hl']
      by_cases hf : 48 ≤ b q ∧ b q ≤ 57
      · have hf' : pFi b q = true := decide_eq_true hf
        obtain ⟨D, e, F, a5, a2, a3, a4⟩ := x_numb (s := q) FU q (pI D1 1 4 0) (by omega) (by omega) (by unfold FU; omega) (hX1.mv (Ft.pi (by decide))) (by rw [pk (by decide)]; exact g5) (by rw [pk (by decide)]; exact g3) (by rw [ps, Nat.sub_self]; rfl)
        rw [if_neg (fun z => (fig_all (b q) (by omega)).1.mp z hf), if_pos hf', if_pos hf']
        unfold f_X6_readNumber
        rw [T_cls, if_pos rfl, e, Option.bind_some]
        exact ⟨D, rfl, (F1.tr (Ft.pi (by decide))).tr F, a2, by rw [a3, pk (by decide)]; exact g3, a5, fun _ => a4⟩
      · have hf' : ¬ pFi b q = true := fun z => hf (of_decide_eq_true z)
        rw [if_pos ((fig_all (b q) (by omega)).1.mpr hf), if_neg hf', if_neg hf']
        by_cases h59 : b q = 59
        · rw [if_pos (show nI (b q) = 59 by rw [h59]; rfl), if_pos h59, pk (by decide), g5, nI_1]
          exact ⟨_, rfl, (F1.tr (Ft.pi (by decide))).tr (Ft.pi (by decide)), by rw [pk (by decide), ps]; rfl, by rw [pk (by decide), pk (by decide)]; exact g3, ps, fun z => by omega⟩
        · rw [if_neg (show ¬ nI (b q) = 59 from fun z => h59 (nI_inj (b := 59) (by omega) (by omega) z)), if_neg h59, pk (by decide), g5, nI_1]
          exact ⟨_, rfl, (F1.tr (Ft.pi (by decide))).tr (Ft.pi (by decide)), by rw [pk (by decide), ps]; rfl, by rw [pk (by decide), pk (by decide)]; exact g3, ps, fun z => by omega⟩
end XT
