/-! ===== numbers of a week; a week keeps a row well made ===== -/
def lrnN (k g : Nat) : Nat := if k = 0 then g else if k = 1 then 2 * g else if k = 2 then (g + 1) / 2 else (g + 1) / 2 + 1
theorem learn_all : ∀ k, k < 4 → ∀ g, g < 10 → f_X8_learns (nI k) (nI g) = nI (lrnN k g) ∧ mlearn (nI k) (nI g) = nI (lrnN k g) ∧ lrnN k g ≤ 18 := by decide +kernel
def rsd (x l m : Nat) : Nat := if x < m then min m (x + l) else x
theorem jmin_nI {a b : Nat} (ha : a < 2 ^ 31) (hb : b < 2 ^ 31) : jmin (nI a) (nI b) = nI (min a b) := by
  unfold jmin
  by_cases h : b < a
  · rw [if_pos (nI_lt h ha)]
    congr 1
    omega
  · rw [if_neg (nI_nlt (by omega) hb)]
    congr 1
    omega
theorem jmax_nI {a b : Nat} (ha : a < 2 ^ 31) (hb : b < 2 ^ 31) : jmax (nI a) (nI b) = nI (max a b) := by
  unfold jmax
  by_cases h : a < b
  · rw [if_pos (nI_lt h hb)]
    congr 1
    omega
  · rw [if_neg (nI_nlt (by omega) ha)]
    congr 1
    omega
theorem raised_nI {x l m : Nat} (hx : x < 10000) (hl : l < 10000) (hm : m < 10000) : f_X8_raised (nI x) (nI l) (nI m) = nI (rsd x l m) := by
  unfold f_X8_raised rsd
  by_cases h : x < m
  · rw [if_pos (nI_lt h (by omega)), if_pos h, nI_add, jmin_nI (by omega) (by omega)]
  · rw [if_neg (nI_nlt (by omega) (by omega)), if_neg h]
theorem skill_nI {x l m : Nat} (hx : x < 10000) (hl : l < 10000) (hm : m < 10000) : (if f_X9_lesser (nI m) (nI x + nI l) ≤ nI x then nI x else f_X9_lesser (nI m) (nI x + nI l)) = nI (rsd x l m) := by
  rw [lesser_jmin, nI_add, jmin_nI (by omega) (by omega)]
  unfold rsd
  by_cases h : min m (x + l) ≤ x
  · rw [if_pos (nI_le h (by omega))]
    congr 1
    split <;> omega
  · rw [if_neg (fun q => h ((nI_leI (by omega) (by omega)).mp q))]
    congr 1
    split <;> omega
theorem rsd_le {x l m : Nat} (hx : x ≤ 99) (hm : m ≤ 99) : rsd x l m ≤ 99 := by unfold rsd; split <;> omega
/-- a child as numbers -/
def Kn (r : Rw) (c k b t x a : Nat) : Prop := r (12 + 5 * c) = nI k ∧ k < 4 ∧ r (12 + 5 * c + 2) = nI t ∧ t ≤ 99 ∧ ((t = 0 ∧ r (12 + 5 * c + 1) = -4) ∨ (0 < t ∧ b < 4 ∧ r (12 + 5 * c + 1) = nI b)) ∧ r (12 + 5 * c + 3) = nI x ∧ x ≤ 99 ∧ r (12 + 5 * c + 4) = nI a ∧ a ≤ 999
theorem GK.kn {r : Rw} {c : Nat} (h : GK r c) : ∃ k b t x a, Kn r c k b t x a := by
  obtain ⟨⟨k, hk, e0⟩, ⟨t, ht, e2, h1⟩, ⟨x, hx, e3⟩, ⟨a, ha, e4⟩⟩ := h
  rcases h1 with ⟨h0, e1⟩ | ⟨h0, b, hb, e1⟩
  · exact ⟨k, 0, t, x, a, e0, hk, e2, ht, Or.inl ⟨h0, e1⟩, e3, hx, e4, ha⟩
  · exact ⟨k, b, t, x, a, e0, hk, e2, ht, Or.inr ⟨h0, hb, e1⟩, e3, hx, e4, ha⟩
theorem Kn.gk {r : Rw} {c k b t x a : Nat} (h : Kn r c k b t x a) : GK r c := by
  obtain ⟨e0, hk, e2, ht, h1, e3, hx, e4, ha⟩ := h
  refine ⟨⟨k, hk, e0⟩, ⟨t, ht, e2, ?_⟩, ⟨x, hx, e3⟩, ⟨a, ha, e4⟩⟩
  rcases h1 with h1 | ⟨h0, hb, e1⟩
  · exact Or.inl h1
  · exact Or.inr ⟨h0, b, hb, e1⟩
/-- a season as numbers -/
def Sn (r : Rw) (s y g m : Nat) : Prop := r (3 * s) = nI y ∧ 1 ≤ y ∧ y ≤ 9 ∧ r (3 * s + 1) = nI g ∧ g ≤ 9 ∧ r (3 * s + 2) = nI m ∧ m ≤ 99
theorem GS.sn {r : Rw} {s : Nat} (h : GS r s) : ∃ y g m, Sn r s y g m := by
  obtain ⟨⟨y, h1, h2, e0⟩, ⟨g, hg, e1⟩, ⟨m, hm, e2⟩⟩ := h
  exact ⟨y, g, m, e0, h1, h2, e1, hg, e2, hm⟩
section KW
variable {r : Rw} {c k b t x a : Nat}
theorem Kn.bd (h : Kn r c k b t x a) (ht : 0 < t) : bdR r c = nI b ∧ b < 4 := by
  obtain ⟨-, -, -, -, h1, -⟩ := h
  rcases h1 with h1 | h1
  · omega
  · exact ⟨h1.2.2, h1.2.1⟩
theorem Kn.fr (h : Kn r c k b t x a) (ht : t = 0) : bdR r c = -4 := by
  obtain ⟨-, -, -, -, h1, -⟩ := h
  rcases h1 with h1 | h1
  · exact h1.2
  · omega
theorem Kn.act_iff (h : Kn r c k b t x a) {i : Nat} (hi : i < 4) (e : r 38 = nI i) : act r c ↔ 0 < t ∧ b = i := by
  constructor
  · intro q
    rcases Nat.eq_zero_or_pos t with h0 | h0
    · exact absurd (h.fr h0) q.1
    · refine ⟨h0, ?_⟩
      have h1 := h.bd h0
      exact nI_inj (by omega) (by omega) (h1.1.symm.trans (q.2.trans e))
  · rintro ⟨h0, rfl⟩
    have h1 := h.bd h0
    exact ⟨by rw [h1.1]; exact nI_ne4 (by omega), by rw [h1.1, e]⟩
theorem Kn.liv_iff (h : Kn r c k b t x a) {i : Nat} (hi : i < 4) (e : r 38 = nI i) : liv r c ↔ t = 0 ∨ b = i := by
  constructor
  · intro q
    rcases Nat.eq_zero_or_pos t with h0 | h0
    · exact Or.inl h0
    · right
      have h1 := h.bd h0
      rcases q with q | q
      · exact absurd q (by show ¬ bdR r c = -4; rw [h1.1]; exact nI_ne4 (by omega))
      · exact nI_inj (by omega) (by omega) (h1.1.symm.trans (q.trans e))
  · intro q
    rcases Nat.eq_zero_or_pos t with h0 | h0
    · exact Or.inl (h.fr h0)
    · have h1 := h.bd h0
      rcases q with q | q
      · omega
      · exact Or.inr (by show bdR r c = r 38; rw [h1.1, e, q])
/-- a child's week in numbers -/
theorem kid_num (h : Kn r c k b t x a) {i : Nat} (hi : i < 4) (e : r 38 = nI i) (hS : ∀ s, s < 4 → GS r s) (off : Int32) {R : Rw} (hR : ∀ j, j < 5 → R (12 + 5 * c + j) = kid off r c j) :
    (¬ (t = 0 ∨ b = i) → Kn R c k b t x a) ∧ (t = 0 → Kn R c k b t x (min 999 (a + 1))) ∧ (0 < t → b = i → ∃ y g m, Sn r b y g m ∧ Kn R c k b (t - 1) (if off = 0 then rsd x (lrnN k g) m else x) (min 999 (a + 1))) := by
  have r0 := hR 0 (by omega)
  have r1 := hR 1 (by omega)
  have r2 := hR 2 (by omega)
  have r3 := hR 3 (by omega)
  have r4 := hR 4 (by omega)
  simp only [Nat.add_zero] at r0
  have hl := h.liv_iff hi e
  have hac := h.act_iff hi e
  have hage : kAge r c = if (t = 0 ∨ b = i) then nI (min 999 (a + 1)) else nI a := by
    unfold kAge
    rw [h.2.2.2.2.2.2.2.1]
    by_cases q : t = 0 ∨ b = i
    · rw [if_pos (hl.mpr q), if_pos q, lesser_jmin, nI_1, show (999 : Int32) = nI 999 from rfl, jmin_nI (by omega) (by have := h.2.2.2.2.2.2.2.2; omega)]
    · rw [if_neg (fun z => q (hl.mp z)), if_neg q]
  obtain ⟨e0, hk, e2, ht, h1, e3, hx, e4, ha⟩ := id h
  refine ⟨fun q => ?_, fun q => ?_, fun q1 q2 => ?_⟩
  · have hnl : ¬ liv r c := fun z => q (hl.mp z)
    rw [kid_dead hnl (by omega)] at r0 r1 r2 r3 r4
    simp only [Nat.add_zero] at r0
    refine ⟨r0.trans e0, hk, r2.trans e2, ht, ?_, r3.trans e3, hx, r4.trans e4, ha⟩
    rw [r1]
    exact h1
  · have hna : ¬ act r c := fun z => by have := (hac.mp z).1; omega
    rw [kid0] at r0
    rw [kid1, kBnd, if_neg (fun z => hna z.1)] at r1
    rw [kid2, kTerm, if_neg hna] at r2
    rw [kid3, kSkill, if_neg (fun z => hna z.1)] at r3
    rw [kid4, hage, if_pos (Or.inl q)] at r4
    exact ⟨r0.trans e0, hk, r2.trans e2, ht, Or.inl ⟨q, r1.trans (h.fr q)⟩, r3.trans e3, hx, r4, by omega⟩
  · have hact : act r c := hac.mpr ⟨q1, q2⟩
    obtain ⟨hb1, hb2⟩ := h.bd q1
    obtain ⟨y, g, m, hs⟩ := (hS b hb2).sn
    refine ⟨y, g, m, hs, ?_⟩
    obtain ⟨s0, s1, s2, s3, s4, s5, s6⟩ := hs
    obtain ⟨l1, l2, l3⟩ := learn_all k hk g (by omega)
    rw [kid0] at r0
    rw [kid2, kTerm, if_pos hact, e2, show (1 : Int32) = nI 1 from rfl, nI_sub (by omega)] at r2
    rw [kid4, hage, if_pos (Or.inr q2)] at r4
    have hth : thenR r c = f_X9_lesser (nI m) (nI x + nI (lrnN k g)) := by
      unfold thenR
      rw [hb1, nI_clamp (by omega), s5, s3, e3, e0, l2]
    have r3' : R (12 + 5 * c + 3) = nI (if off = 0 then rsd x (lrnN k g) m else x) := by
      rw [r3, kid3, kSkill, hth, e3]
      by_cases ho : off = 0
      · rw [if_pos ⟨hact, ho⟩, if_pos ho]
        exact skill_nI (by omega) (by omega) (by omega)
      · rw [if_neg (fun z => ho z.2), if_neg ho]
    have r1' : (t - 1 = 0 ∧ R (12 + 5 * c + 1) = -4) ∨ (0 < t - 1 ∧ b < 4 ∧ R (12 + 5 * c + 1) = nI b) := by
      rw [r1, kid1, kBnd, e2, show (1 : Int32) = nI 1 from rfl, nI_sub (by omega)]
      rcases Nat.eq_zero_or_pos (t - 1) with h0 | h0
      · left
        rw [h0]
        exact ⟨rfl, if_pos ⟨hact, rfl⟩⟩
      · right
        refine ⟨h0, hb2, ?_⟩
        rw [if_neg (fun z => nI_ne0 h0 (by omega) z.2)]
        exact hb1
    refine ⟨r0.trans e0, hk, r2, by omega, r1', r3', ?_, r4, by omega⟩
    split
    · exact rsd_le hx s6
    · exact hx
end KW
theorem wk_kid {off : Int32} {r : Rw} {c : Nat} (hc : c < nk r) (h5 : nk r ≤ 5) : ∀ j, j < 5 → wk off r (12 + 5 * c + j) = kid off r c j := by
  intro j hj
  unfold wk
  rw [if_neg (by omega), if_neg (by omega), if_neg (by omega), wkP_at hc hj]
theorem wk_lo {off : Int32} {r : Rw} {j : Nat} (h : j < 12) : wk off r j = r j := by
  unfold wk
  rw [if_neg (by omega), if_neg (by omega), if_neg (by omega), wkP_ne (by omega)]
theorem wk_37 {off : Int32} {r : Rw} (h5 : nk r ≤ 5) : wk off r 37 = r 37 := by
  unfold wk
  rw [if_neg (by omega), if_neg (by omega), if_neg (by omega), wkP_ne (by omega)]
theorem wk_hi {off : Int32} {r : Rw} {j : Nat} (h5 : nk r ≤ 5) (h : 41 ≤ j) : wk off r j = r j := by
  unfold wk
  rw [if_neg (by omega), if_neg (by omega), if_neg (by omega), wkP_ne (by omega)]
theorem wk_nk {off : Int32} {r : Rw} (h5 : nk r ≤ 5) : nk (wk off r) = nk r := by unfold nk; rw [wk_37 h5]
theorem wk_ns {off : Int32} {r : Rw} (h5 : nk r ≤ 5) : ns (wk off r) = ns r := by unfold ns; rw [wk_hi h5 (by omega)]
theorem wk_38 {off : Int32} {r : Rw} : wk off r 38 = if r 39 - 1 = 0 then nit r else r 38 := rfl
theorem wk_39 {off : Int32} {r : Rw} : wk off r 39 = if r 39 - 1 = 0 then r (3 * (nit r).toNatClampNeg) else r 39 - 1 := rfl
theorem wk_40 {off : Int32} {r : Rw} : wk off r 40 = r 40 + 1 := rfl
theorem wk_GK {off : Int32} {r : Rw} (g : Good r) {c : Nat} (hc : c < nk r) : GK (wk off r) c := by
  obtain ⟨i, hi, e⟩ := g.2.1
  obtain ⟨k, b, t, x, a, h⟩ := (g.2.2.2.2.2.2.1 c hc).kn
  obtain ⟨q1, q2, q3⟩ := kid_num h hi e g.2.2.2.2.2.1 off (wk_kid hc g.1.2)
  rcases Nat.eq_zero_or_pos t with h0 | h0
  · exact (q2 h0).gk
  · by_cases hb : b = i
    · obtain ⟨y, gg, m, -, hk⟩ := q3 h0 hb
      exact hk.gk
    · exact (q1 (by omega)).gk
theorem Good.wk {off : Int32} {r : Rw} (g : Good r) : Good (wk off r) := by
  have h5 := g.1.2
  obtain ⟨i, hi, e⟩ := g.2.1
  obtain ⟨x, hx1, hx2, ex⟩ := g.2.2.1
  have h4 : (i + 1) % 4 < 4 := Nat.mod_lt _ (by decide)
  refine ⟨⟨by rw [wk_nk h5, wk_37 h5]; exact g.1.1, by rw [wk_nk h5]; exact h5⟩, ?_, ?_, trivial, ⟨by rw [wk_ns h5, wk_hi h5 (by omega)]; exact g.2.2.2.2.1.1, by rw [wk_ns h5]; exact g.2.2.2.2.1.2⟩, fun s hs => ?_, fun c hc => ?_, fun j hj => ?_⟩
  · rw [wk_38]
    split
    · exact ⟨_, h4, nit_nI hi e⟩
    · exact ⟨i, hi, e⟩
  · rw [wk_39, ex, show (1 : Int32) = nI 1 from rfl, nI_sub hx1]
    split
    · rw [nit_nI hi e, nI_clamp (by omega)]
      obtain ⟨⟨y, h1, h2, h3⟩, -⟩ := g.2.2.2.2.2.1 _ h4
      exact ⟨y, h1, h2, h3⟩
    · rename_i hz
      refine ⟨x - 1, ?_, by omega, rfl⟩
      rcases Nat.eq_zero_or_pos (x - 1) with h0 | h0
      · exact absurd (by rw [h0]; rfl) hz
      · exact h0
  · have := g.2.2.2.2.2.1 s hs
    unfold GS at *
    rw [wk_lo (by omega), wk_lo (by omega), wk_lo (by omega)]
    exact this
  · rw [wk_nk h5] at hc
    exact wk_GK g hc
  · rw [wk_ns h5] at hj
    rw [wk_nk h5, wk_hi h5 (by omega), wk_hi h5 (by omega), wk_hi h5 (by omega)]
    exact g.2.2.2.2.2.2.2 j hj
