/-! ===== rows and worlds ===== -/
/-- how many children, how many notes -/
def nk (r : Rw) : Nat := (r 37).toNatClampNeg
def ns (r : Rw) : Nat := (r 41).toNatClampNeg
/-- a child in a row is well made -/
def GK (r : Rw) (c : Nat) : Prop := (∃ k, k < 4 ∧ r (12 + 5 * c) = nI k) ∧ (∃ t, t ≤ 99 ∧ r (12 + 5 * c + 2) = nI t ∧ ((t = 0 ∧ r (12 + 5 * c + 1) = -4) ∨ (0 < t ∧ ∃ s, s < 4 ∧ r (12 + 5 * c + 1) = nI s))) ∧ (∃ x, x ≤ 99 ∧ r (12 + 5 * c + 3) = nI x) ∧ (∃ a, a ≤ 999 ∧ r (12 + 5 * c + 4) = nI a)
/-- a season in a row is well made -/
def GS (r : Rw) (s : Nat) : Prop := (∃ x, 1 ≤ x ∧ x ≤ 9 ∧ r (3 * s) = nI x) ∧ (∃ g, g ≤ 9 ∧ r (3 * s + 1) = nI g) ∧ (∃ m, m ≤ 99 ∧ r (3 * s + 2) = nI m)
/-- a row is well made -/
def Good (r : Rw) : Prop := (r 37 = nI (nk r) ∧ nk r ≤ 5) ∧ (∃ i, i < 4 ∧ r 38 = nI i) ∧ (∃ x, 1 ≤ x ∧ x ≤ 9 ∧ r 39 = nI x) ∧ True ∧ (r 41 = nI (ns r) ∧ ns r ≤ 6) ∧ (∀ s, s < 4 → GS r s) ∧ (∀ c, c < nk r → GK r c) ∧
  (∀ i, i < ns r → (∃ x, x ≤ 30 ∧ r (42 + 3 * i) = nI x) ∧ (∃ c, c < nk r ∧ r (42 + 3 * i + 1) = nI c) ∧ (∃ x, x ≤ 99 ∧ r (42 + 3 * i + 2) = nI x))
/-- the class's child c of the world w is the row's -/
def KR (d : Dt) (w : Nat) (r : Rw) (c : Nat) : Prop := d.1 (w + 10 + c) 0 = r (12 + 5 * c) ∧ d.1 (w + 10 + c) 2 = r (12 + 5 * c + 2) ∧ d.1 (w + 10 + c) 3 = r (12 + 5 * c + 3) ∧ d.1 (w + 10 + c) 4 = r (12 + 5 * c + 4) ∧ (r (12 + 5 * c + 2) ≠ 0 → d.1 (w + 10 + c) 1 = r (12 + 5 * c + 1)) ∧ ∃ s, s < 4 ∧ d.1 (w + 10 + c) 1 = nI s
/-- the class's world at w is the row -/
def RW (d : Dt) (w : Nat) (r : Rw) : Prop := (d.1 w 2 = r 37 ∧ d.1 w 3 = r 38 ∧ d.1 w 4 = r 39 ∧ d.1 w 5 = r 40 ∧ d.1 w 9 = r 41) ∧ (∀ s, s < 4 → d.1 (w + 6 + s) 0 = r (3 * s) ∧ d.1 (w + 6 + s) 1 = r (3 * s + 1) ∧ d.1 (w + 6 + s) 2 = r (3 * s + 2)) ∧ (∀ c, c < nk r → KR d w r c) ∧ (∀ i, i < ns r → d.1 (w + 3) i = r (42 + 3 * i) ∧ d.1 (w + 4) i = r (42 + 3 * i + 1) ∧ d.1 (w + 5) i = r (42 + 3 * i + 2))
/-- rows alike where a row is read -/
def Eq60 (r r' : Rw) : Prop := ∀ j, j < 60 → r j = r' j
theorem Eq60.rf {r : Rw} : Eq60 r r := fun _ _ => rfl
theorem Eq60.sy {r r' : Rw} (h : Eq60 r r') : Eq60 r' r := fun j hj => (h j hj).symm
theorem Eq60.tr {r r' r'' : Rw} (h : Eq60 r r') (h' : Eq60 r' r'') : Eq60 r r'' := fun j hj => (h j hj).trans (h' j hj)
theorem nk_eq {r r' : Rw} (h : Eq60 r r') : nk r = nk r' := by unfold nk; rw [h 37 (by omega)]
theorem ns_eq {r r' : Rw} (h : Eq60 r r') : ns r = ns r' := by unfold ns; rw [h 41 (by omega)]
theorem GK.eq {r r' : Rw} {c : Nat} (h : Eq60 r r') (hc : c < 5) (g : GK r c) : GK r' c := by
  unfold GK at *
  rw [← h _ (by omega), ← h (12 + 5 * c + 1) (by omega), ← h (12 + 5 * c + 2) (by omega), ← h (12 + 5 * c + 3) (by omega), ← h (12 + 5 * c + 4) (by omega)]
  exact g
theorem GS.eq {r r' : Rw} {s : Nat} (h : Eq60 r r') (hs : s < 4) (g : GS r s) : GS r' s := by
  unfold GS at *
  rw [← h (3 * s) (by omega), ← h (3 * s + 1) (by omega), ← h (3 * s + 2) (by omega)]
  exact g
theorem Good.eq {r r' : Rw} (h : Eq60 r r') (g : Good r) : Good r' := by
  obtain ⟨⟨g1, g1'⟩, g2, g3, g4, ⟨g5, g5'⟩, g6, g7, g8⟩ := g
  refine ⟨⟨by rw [← nk_eq h, ← h 37 (by omega)]; exact g1, by rw [← nk_eq h]; exact g1'⟩, by rw [← h 38 (by omega)]; exact g2, by rw [← h 39 (by omega)]; exact g3, trivial, ⟨by rw [← ns_eq h, ← h 41 (by omega)]; exact g5, by rw [← ns_eq h]; exact g5'⟩, fun s hs => (g6 s hs).eq h hs, fun c hc => ?_, fun i hi => ?_⟩
  · rw [← nk_eq h] at hc
    exact (g7 c hc).eq h (by omega)
  · rw [← ns_eq h] at hi
    rw [← nk_eq h, ← h (42 + 3 * i) (by omega), ← h (42 + 3 * i + 1) (by omega), ← h (42 + 3 * i + 2) (by omega)]
    exact g8 i hi
theorem RW.eq {d : Dt} {w : Nat} {r r' : Rw} (h : Eq60 r r') (hn : nk r ≤ 5) (hm : ns r ≤ 6) (g : RW d w r) : RW d w r' := by
  obtain ⟨g1, g2, g3, g4⟩ := g
  refine ⟨by rw [← h 37 (by omega), ← h 38 (by omega), ← h 39 (by omega), ← h 40 (by omega), ← h 41 (by omega)]; exact g1, fun s hs => by rw [← h (3 * s) (by omega), ← h (3 * s + 1) (by omega), ← h (3 * s + 2) (by omega)]; exact g2 s hs, fun c hc => ?_, fun i hi => ?_⟩
  · rw [← nk_eq h] at hc
    have := g3 c hc
    unfold KR at *
    rw [← h (12 + 5 * c) (by omega), ← h (12 + 5 * c + 1) (by omega), ← h (12 + 5 * c + 2) (by omega), ← h (12 + 5 * c + 3) (by omega), ← h (12 + 5 * c + 4) (by omega)]
    exact this
  · rw [← ns_eq h] at hi
    rw [← h (42 + 3 * i) (by omega), ← h (42 + 3 * i + 1) (by omega), ← h (42 + 3 * i + 2) (by omega)]
    exact g4 i hi
/-- the cells of one world alone may differ -/
def Bw (w : Nat) (d d' : Dt) : Prop := (∀ a, (a < w ∨ w + 15 ≤ a) → d'.1 a = d.1 a) ∧ d'.2 = d.2
theorem Bw.rf {w : Nat} {d : Dt} : Bw w d d := ⟨fun _ _ => rfl, rfl⟩
theorem Bw.tr {w : Nat} {d d' d'' : Dt} (h : Bw w d d') (h' : Bw w d' d'') : Bw w d d'' := ⟨fun a ha => (h'.1 a ha).trans (h.1 a ha), h'.2.trans h.2⟩
theorem Bw.pI {w : Nat} {d : Dt} {q k : Nat} {v : Int32} (h : w ≤ q ∧ q < w + 15) : Bw w d (pI d q k v) := ⟨fun a ha => pI_ne (by omega), rfl⟩
theorem RW.mv {d d' : Dt} {w : Nat} {r : Rw} (h : ∀ a, w ≤ a → a < w + 15 → d'.1 a = d.1 a) (g : RW d w r) (hn : nk r ≤ 5) : RW d' w r := by
  obtain ⟨g1, g2, g3, g4⟩ := g
  refine ⟨by rw [h w (by omega) (by omega)]; exact g1, fun s hs => by rw [h (w + 6 + s) (by omega) (by omega)]; exact g2 s hs, fun c hc => ?_, fun i hi => by rw [h (w + 3) (by omega) (by omega), h (w + 4) (by omega) (by omega), h (w + 5) (by omega) (by omega)]; exact g4 i hi⟩
  have := g3 c hc
  unfold KR at *
  rw [h (w + 10 + c) (by omega) (by omega)]
  exact this
