/-! ===== folds; what the class reads off a world ===== -/
def fo {σ : Type} (f : σ → Nat → σ) : Nat → Nat → σ → σ
  | 0, _, s => s
  | k + 1, c, s => fo f k (c + 1) (f s c)
theorem fo_congr {σ : Type} {f g : σ → Nat → σ} : ∀ (k c : Nat) (s : σ), (∀ s i, c ≤ i → i < c + k → f s i = g s i) → fo f k c s = fo g k c s
  | 0, _, _, _ => rfl
  | k + 1, c, s, h => by
    show fo f k (c + 1) (f s c) = fo g k (c + 1) (g s c)
    rw [h s c (Nat.le_refl c) (by omega)]
    exact fo_congr k (c + 1) _ (fun s i h1 h2 => h s i (by omega) (by omega))
theorem fo_succ {σ : Type} {f : σ → Nat → σ} {k c : Nat} {s : σ} (h : c < k) : fo f (k - c) c s = fo f (k - (c + 1)) (c + 1) (f s c) := by
  have : k - c = (k - (c + 1)) + 1 := by omega
  rw [this]
  rfl
def sumK (k : Nat) (r : Rw) : Int32 := fo (fun s i => s + r (12 + 5 * i + k)) (nk r) 0 0
abbrev liv (r : Rw) (i : Nat) : Prop := r (12 + 5 * i + 1) = -4 ∨ r (12 + 5 * i + 1) = r 38
theorem liv_dec (r : Rw) (i : Nat) : liv r i ↔ (r (12 + 5 * i + 1) = -4 ∨ r (12 + 5 * i + 1) = r 38) := Iff.rfl
def bitI (i : Nat) : Int32 := (1 : Int32) <<< (nI i &&& 31)
def livB (r : Rw) : Int32 := fo (fun s i => if liv r i then s ||| bitI i else s) (nk r) 0 0
def freB (r : Rw) : Int32 := fo (fun s i => if r (12 + 5 * i + 1) = -4 then s ||| bitI i else s) (nk r) 0 0
def bndB (r : Rw) (v : Int32) : Int32 := fo (fun s i => if r (12 + 5 * i + 1) = v then s ||| bitI i else s) (nk r) 0 0
def lenS (r : Rw) : Int32 := fo (fun s i => s + r (3 * i)) 4 0 0
section XS
variable {d : Dt} {w : Nat} {r : Rw}
theorem RW.sz (h : RW d w r) (g : Good r) : d.1 w 2 = nI (nk r) := h.1.1.trans g.1.1
theorem x_le (h : RW d w r) (g : Good r) {c : Nat} (hc : c < 100) : (d.1 w 2 ≤ nI c) ↔ nk r ≤ c := by
  rw [h.sz g]
  exact nI_leI (by have := g.1.2; omega) (by omega)
theorem KR.free {c : Nat} (h : KR d w r c) (g : GK r c) : (d.1 (w + 10 + c) 2 = 0 ↔ r (12 + 5 * c + 1) = -4) ∧ (d.1 (w + 10 + c) 2 ≤ 0 ↔ r (12 + 5 * c + 1) = -4) := by
  obtain ⟨-, h2, -, -, h5, -⟩ := h
  obtain ⟨-, ⟨t, ht, e1, e2⟩, -⟩ := g
  rw [h2, e1]
  rcases e2 with ⟨rfl, e2⟩ | ⟨h0, s, hs, e2⟩
  · rw [e2]
    constructor <;> constructor <;> intro _ <;> first | rfl | decide
  · rw [e2]
    constructor
    · constructor
      · intro q; exact absurd q (nI_ne0 h0 (by omega))
      · intro q; exact absurd q (nI_ne4 (by omega))
    · constructor
      · intro q; exact absurd q (nI_nle h0 (by omega))
      · intro q; exact absurd q (nI_ne4 (by omega))
theorem KR.bnd {c : Nat} (h : KR d w r c) (g : GK r c) (hb : ¬ r (12 + 5 * c + 1) = -4) : d.1 (w + 10 + c) 1 = r (12 + 5 * c + 1) := by
  apply h.2.2.2.2.1
  intro q
  exact hb ((h.free g).1.mp (h.2.1.trans q))
theorem x_skillSum_L (hw : isW w) (hR : RW d w r) (hG : Good r) : ∀ (n c : Nat) (v : Int32), c ≤ nk r → nk r - c < n → f_X7_skillSum_L4 L0 d w n v (nI c) = some (fo (fun s i => s + r (12 + 5 * i + 3)) (nk r - c) c v) := by
  have h5 := hG.1.2
  intro n
  induction n with
  | zero => intro c v h1 h2; omega
  | succ n ih =>
    intro c v h1 h2
    unfold f_X7_skillSum_L4
    rw [W_cls hw, if_pos rfl]
    by_cases hc : c = nk r
    · subst hc
      rw [if_pos ((x_le hR hG (by omega)).mpr (Nat.le_refl _)), Nat.sub_self]
      rfl
    · have hc5 : c < 5 := by omega
      rw [if_neg (fun q => hc (Nat.le_antisymm h1 ((x_le hR hG (by omega)).mp q))), W_ch hw, Option.bind_some, W_rac hw hc5, Option.bind_some, W_ccl hw hc5, if_pos rfl, (hR.2.2.1 c (by omega)).2.2.1, nI_1, ih (c + 1) _ (by omega) (by omega), fo_succ (show c < nk r by omega)]
theorem x_skillSum (hw : isW w) (hR : RW d w r) (hG : Good r) : f_X7_skillSum L0 d w = some (sumK 3 r) := by
  have h5 := hG.1.2
  exact x_skillSum_L hw hR hG FU 0 0 (Nat.zero_le _) (by unfold FU; omega)
end XS
