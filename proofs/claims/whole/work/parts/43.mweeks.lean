/-! ===== the reference's weeks ===== -/
theorem bit_at (b : Nat → Bool) (n : Nat) (hn : n ≤ 5) (c : Nat) (hc : c < n) : (((fo (fun (s : Int32) i => if b i = true then s ||| bitI i else s) n 0 0) >>> (nI c &&& 31)) &&& 1) = if b c = true then 1 else 0 := by
  have h0 : ∀ x0 : Bool, ((((if x0 = true then (0 : Int32) ||| bitI 0 else 0)) >>> (nI 0 &&& 31)) &&& 1) = if x0 = true then 1 else 0 := by decide +kernel
  have key : ∀ (n : Fin 6) (c : Fin 5) (x0 x1 x2 x3 x4 : Bool), c.val < n.val → (((fo (fun (s : Int32) i => if [x0, x1, x2, x3, x4].getD i false = true then s ||| bitI i else s) n.val 0 0) >>> (nI c.val &&& 31)) &&& 1) = if [x0, x1, x2, x3, x4].getD c.val false = true then 1 else 0 := by decide +kernel
  have k1 := key ⟨n, by omega⟩ ⟨c, by omega⟩ (b 0) (b 1) (b 2) (b 3) (b 4) hc
  have hb : ∀ i, i < 5 → [b 0, b 1, b 2, b 3, b 4].getD i false = b i := by
    intro i hi
    rcases (show i = 0 ∨ i = 1 ∨ i = 2 ∨ i = 3 ∨ i = 4 by omega) with rfl | rfl | rfl | rfl | rfl <;> rfl
  rw [hb c (by omega)] at k1
  rw [← k1]
  congr 2
  exact fo_congr n 0 0 (fun s i _ h2 => by rw [hb i (by omega)])
theorem bitP_at (p : Nat → Prop) (dp : ∀ i, Decidable (p i)) (n : Nat) (hn : n ≤ 5) (c : Nat) (hc : c < n) : (((fo (fun (s : Int32) i => if p i then s ||| bitI i else s) n 0 0) >>> (nI c &&& 31)) &&& 1) = if p c then 1 else 0 := by
  have h := bit_at (fun i => decide (p i)) n hn c hc
  simp only [decide_eq_true_eq] at h
  exact h
def Ag (c : Nat) (r r' : Rw) : Prop := (∀ j, j < 12 → r j = r' j) ∧ r 38 = r' 38 ∧ ∀ k, k < 5 → r (12 + 5 * c + k) = r' (12 + 5 * c + k)
/-- a child is free, or bound to a season that is -/
def okB (r : Rw) (c : Nat) : Prop := r (12 + 5 * c + 1) = -4 ∨ ∃ s, s < 4 ∧ r (12 + 5 * c + 1) = nI s
theorem okB.lt {r : Rw} {c : Nat} (h : okB r c) : (bdR r c).toNatClampNeg < 4 := by
  unfold bdR
  rcases h with h | ⟨s, hs, h⟩ <;> rw [h]
  · decide
  · rw [nI_clamp (by omega)]; exact hs
theorem GK.okB {r : Rw} {c : Nat} (h : GK r c) : okB r c := by
  obtain ⟨-, ⟨t, -, -, h⟩, -⟩ := h
  rcases h with h | h
  · exact Or.inl h.2
  · exact Or.inr h.2
theorem liv_congr {c : Nat} {r r' : Rw} (h : Ag c r r') : liv r c ↔ liv r' c := by
  unfold liv
  rw [h.2.2 1 (by omega), h.2.1]
theorem kid_congr {c : Nat} {off : Int32} {r r' : Rw} (h : Ag c r r') (hb : okB r c) (k : Nat) : kid off r c k = kid off r' c k := by
  have e0 : r (12 + 5 * c) = r' (12 + 5 * c) := h.2.2 0 (by omega)
  have e1 : bdR r c = bdR r' c := h.2.2 1 (by omega)
  have e2 := h.2.2 2 (by omega)
  have e3 := h.2.2 3 (by omega)
  have e4 := h.2.2 4 (by omega)
  have hlt := hb.lt
  have em : r (3 * (bdR r c).toNatClampNeg + 2) = r' (3 * (bdR r' c).toNatClampNeg + 2) := by rw [h.1 _ (by omega), e1]
  have eg : r (3 * (bdR r c).toNatClampNeg + 1) = r' (3 * (bdR r' c).toNatClampNeg + 1) := by rw [h.1 _ (by omega), e1]
  have hth : thenR r c = thenR r' c := by unfold thenR; rw [em, eg, e0, e3]
  have hact : act r c ↔ act r' c := by unfold act; rw [e1, h.2.1]
  have k4 : kAge r c = kAge r' c := by
    unfold kAge
    by_cases hl : liv r c
    · rw [if_pos hl, if_pos ((liv_congr h).mp hl), e4]
    · rw [if_neg hl, if_neg (fun q => hl ((liv_congr h).mpr q)), e4]
  have k3 : kSkill off r c = kSkill off r' c := by
    unfold kSkill
    rw [hth, e3]
    by_cases ha : act r c ∧ off = 0
    · rw [if_pos ha, if_pos (show act r' c ∧ off = 0 from ⟨hact.mp ha.1, ha.2⟩)]
    · rw [if_neg ha, if_neg (show ¬ (act r' c ∧ off = 0) from fun q => ha ⟨hact.mpr q.1, q.2⟩)]
  have k2 : kTerm r c = kTerm r' c := by
    unfold kTerm
    rw [e2]
    by_cases ha : act r c
    · rw [if_pos ha, if_pos (hact.mp ha)]
    · rw [if_neg ha, if_neg (fun q => ha (hact.mpr q))]
  have k1 : kBnd r c = kBnd r' c := by
    unfold kBnd
    rw [e2]
    by_cases ha : act r c ∧ r' (12 + 5 * c + 2) - 1 = 0
    · rw [if_pos ha, if_pos ⟨hact.mp ha.1, ha.2⟩]
    · rw [if_neg ha, if_neg (fun q => ha ⟨hact.mpr q.1, q.2⟩)]; exact e1
  unfold kid
  rw [e0, k1, k2, k3, k4]
theorem kid_dead {c : Nat} {off : Int32} {r : Rw} (h : ¬ liv r c) {k : Nat} (hk : k < 5) : kid off r c k = r (12 + 5 * c + k) := by
  have hna : ¬ act r c := fun q => h (Or.inr q.2)
  rcases (show k = 0 ∨ k = 1 ∨ k = 2 ∨ k = 3 ∨ k = 4 by omega) with rfl | rfl | rfl | rfl | rfl
  · rfl
  · rw [kid1, kBnd, if_neg (fun q => hna q.1)]; rfl
  · rw [kid2, kTerm, if_neg hna]
  · rw [kid3, kSkill, if_neg (fun q => hna q.1)]
  · rw [kid4, kAge, if_neg h]
/-- the first m children's week -/
def wkP (m : Nat) (off : Int32) (r : Rw) : Rw := fun j => if 12 ≤ j ∧ j < 12 + 5 * m then kid off r ((j - 12) / 5) ((j - 12) % 5) else r j
theorem wkP_at {m c k : Nat} {off : Int32} {r : Rw} (hc : c < m) (hk : k < 5) : wkP m off r (12 + 5 * c + k) = kid off r c k := by
  unfold wkP
  rw [if_pos (by omega), show (12 + 5 * c + k - 12) / 5 = c by omega, show (12 + 5 * c + k - 12) % 5 = k by omega]
theorem wkP_ne {m j : Nat} {off : Int32} {r : Rw} (h : ¬ (12 ≤ j ∧ j < 12 + 5 * m)) : wkP m off r j = r j := by
  unfold wkP
  rw [if_neg h]
theorem wkP_0 {off : Int32} {r : Rw} : wkP 0 off r = r := by
  funext j
  exact wkP_ne (by omega)
theorem wkP_ag {m c : Nat} {off : Int32} {r : Rw} (hc : m ≤ c) (h5 : c < 5) : Ag c (wkP m off r) r := ⟨fun j hj => wkP_ne (by omega), wkP_ne (by omega), fun k hk => wkP_ne (by omega)⟩
theorem wkP_succ {c : Nat} {off : Int32} {r : Rw} (h5 : c < 5) (hb : okB r c) : setK (wkP c off r) c (kid off (wkP c off r) c) = wkP (c + 1) off r := by
  have hag := wkP_ag (off := off) (r := r) (Nat.le_refl c) h5
  have hb' : okB (wkP c off r) c := by unfold okB; rw [wkP_ne (by omega)]; exact hb
  funext j
  by_cases h : 12 + 5 * c ≤ j ∧ j < 12 + 5 * c + 5
  · obtain ⟨k, hk, rfl⟩ : ∃ k, k < 5 ∧ j = 12 + 5 * c + k := ⟨j - (12 + 5 * c), by omega, by omega⟩
    rw [setK_at hk, kid_congr hag hb', wkP_at (by omega) hk]
  · rw [setK_ne h]
    unfold wkP
    by_cases h2 : 12 ≤ j ∧ j < 12 + 5 * c
    · rw [if_pos h2, if_pos (by omega)]
    · rw [if_neg h2, if_neg (by omega)]
theorem wkP_dead {c : Nat} {off : Int32} {r : Rw} (hl : ¬ liv r c) : wkP c off r = wkP (c + 1) off r := by
  funext j
  by_cases h : 12 + 5 * c ≤ j ∧ j < 12 + 5 * c + 5
  · obtain ⟨k, hk, rfl⟩ : ∃ k, k < 5 ∧ j = 12 + 5 * c + k := ⟨j - (12 + 5 * c), by omega, by omega⟩
    rw [wkP_ne (by omega), wkP_at (by omega) hk, kid_dead hl hk]
  · unfold wkP
    by_cases h2 : 12 ≤ j ∧ j < 12 + 5 * c
    · rw [if_pos h2, if_pos (by omega)]
    · rw [if_neg h2, if_neg (by omega)]
def nit (r : Rw) : Int32 := (r 38 + 1) - (r 38 + 1) / 4 * 4
/-- a week of a row -/
def wk (off : Int32) (r : Rw) : Rw := fun j => if j = 38 then (if r 39 - 1 = 0 then nit r else r 38) else if j = 39 then (if r 39 - 1 = 0 then r (3 * (nit r).toNatClampNeg) else r 39 - 1) else if j = 40 then r 40 + 1 else wkP (nk r) off r j
theorem nit_nI {r : Rw} {i : Nat} (hi : i < 4) (h : r 38 = nI i) : nit r = nI ((i + 1) % 4) := by
  unfold nit
  rw [h, nI_1]
  exact nI_mod (a := i + 1) (b := 4) (by omega) (by omega)
/-- what a week asks of a row -/
def Wok (r : Rw) : Prop := r 37 = nI (nk r) ∧ nk r ≤ 5 ∧ (∃ i, i < 4 ∧ r 38 = nI i) ∧ ∀ c, c < nk r → okB r c
theorem Good.wok {r : Rw} (g : Good r) : Wok r := ⟨g.1.1, g.1.2, g.2.1, fun c hc => (g.2.2.2.2.2.2.1 c hc).okB⟩
section MWK
theorem m_week_L {off : Int32} {r : Rw} (hW : Wok r) {k39 : Int32 → Dt → Option Dt} : ∀ (n c : Nat) (d : Dt), c ≤ nk r → nk r - c < n → d.1 80 = wkP c off r → f_X9_weekGoes_L7 L0 78 off (livB r) k39 n (nI c) d = k39 (nI (nk r)) (sR d 80 (wkP (nk r) off r)) := by
  obtain ⟨g, h5, -, hbs⟩ := hW
  intro n
  induction n with
  | zero => intro c d h1 h2; omega
  | succ n ih =>
    intro c d h1 h2 he
    unfold f_X9_weekGoes_L7
    rw [M_now, Option.bind_some, show okA L0 80 1 (37 : Int32) = true from Mo_now (j := 37) (by omega), if_pos rfl, show ((37 : Int32)).toNatClampNeg = 37 from rfl, he, wkP_ne (by omega)]
    by_cases hc : c = nk r
    · subst hc
      rw [if_pos ((m_le g h5 (by omega)).mpr (Nat.le_refl _)), ← he, sR_id]
    · have hcn : c < nk r := by omega
      rw [if_neg (fun q => hc (Nat.le_antisymm h1 ((m_le g h5 (by omega)).mp q)))]
      have hbit : ((livB r >>> (nI c &&& 31)) &&& 1) = if liv r c then 1 else 0 := bitP_at (liv r) (fun i => inferInstance) (nk r) h5 c hcn
      rw [hbit]
      have hag := wkP_ag (m := c) (off := off) (r := r) (Nat.le_refl c) (by omega)
      by_cases hl : liv r c
      · rw [if_pos hl, if_pos rfl, M_cls, if_pos rfl, m_childGoes (show c < 5 by omega) off (by rw [he]; exact (liv_congr hag).mpr hl) (by rw [he, wkP_ne (by omega)]; exact hbs c hcn), Option.bind_some, nI_1, ih (c + 1) _ (by omega) (by omega) (by rw [sR_self, he]; exact wkP_succ (by omega) (hbs c hcn)), sR_sR]
      · rw [if_neg hl, if_neg (by decide), nI_1, ih (c + 1) _ (by omega) (by omega) (by rw [he]; exact wkP_dead hl)]
theorem m_week_0 {off : Int32} {r : Rw} (hW : Wok r) {k39 : Int32 → Dt → Option Dt} {d : Dt} (he : d.1 80 = r) : f_X9_weekGoes_L7 L0 78 off (livB r) k39 FU (0 : Int32) d = k39 (nI (nk r)) (sR d 80 (wkP (nk r) off r)) := m_week_L hW FU 0 d (Nat.zero_le _) (by have := hW.2.1; unfold FU; omega) (he.trans wkP_0.symm)
theorem m_weekGoes {d : Dt} {off : Int32} (hW : Wok (d.1 80)) : f_X9_weekGoes L0 d 78 off = some (sR d 80 (wk off (d.1 80))) := by
  obtain ⟨i, hi, hi2⟩ := hW.2.2.1
  unfold f_X9_weekGoes
  rw [M_cls, if_pos rfl, m_livingNow hW.1 hW.2.1, Option.bind_some, m_week_0 hW rfl, M_now, Option.bind_some, show okA L0 80 1 (39 : Int32) = true from Mo_now (j := 39) (by omega), if_pos rfl, show ((39 : Int32)).toNatClampNeg = 39 from rfl, show ((38 : Int32)).toNatClampNeg = 38 from rfl, show ((40 : Int32)).toNatClampNeg = 40 from rfl, show okA L0 80 1 (38 : Int32) = true from Mo_now (j := 38) (by omega), if_pos rfl, show okA L0 80 1 (40 : Int32) = true from Mo_now (j := 40) (by omega), if_pos rfl]
  generalize hq : wkP (nk (d.1 80)) off (d.1 80) = q
  have h5 := hW.2.1
  have q38 : q 38 = d.1 80 38 := by rw [← hq]; exact wkP_ne (by omega)
  have q39 : q 39 = d.1 80 39 := by rw [← hq]; exact wkP_ne (by omega)
  have q40 : q 40 = d.1 80 40 := by rw [← hq]; exact wkP_ne (by omega)
  have hnit := nit_nI hi hi2
  have h4 : (i + 1) % 4 < 4 := Nat.mod_lt _ (by decide)
  have hni2 : (q 38 + 1) - (q 38 + 1) / 4 * 4 = nI ((i + 1) % 4) := by rw [q38]; exact hnit
  have qs : q (3 * ((i + 1) % 4)) = d.1 80 (3 * ((i + 1) % 4)) := by rw [← hq]; exact wkP_ne (by omega)
  simp only [p80s]
  rw [sR_self, p80n (by omega), sR_self, hni2, show ((3 : Int32) * nI ((i + 1) % 4)) + (0 : Int32) = nI (3 * ((i + 1) % 4) + 0) from ix3 _ 0, Mo_now (by omega), if_pos rfl, nI_clamp (by omega), Nat.add_zero]
  by_cases hz : q 39 - 1 = 0
  · rw [if_pos hz]
    congr 1
    simp only [pI_sR, sR_self, sR_sR]
    congr 1
    funext j
    unfold wk
    rw [hq]
    by_cases j38 : j = 38
    · subst j38
      rw [if_pos rfl, upd_n (by omega), upd_n (by omega), upd_s, if_pos (by rw [← q39]; exact hz), hnit]
    · rw [if_neg j38]
      by_cases j39 : j = 39
      · subst j39
        rw [if_pos rfl, upd_n (by omega), upd_s, if_pos (by rw [← q39]; exact hz), hnit, nI_clamp (by omega), upd_n (by omega), upd_n (by omega)]
        exact qs
      · rw [if_neg j39]
        by_cases j40 : j = 40
        · subst j40
          rw [if_pos rfl, upd_s, upd_n (by omega), upd_n (by omega), upd_n (by omega), q40]
        · rw [if_neg j40, upd_n j40, upd_n j39, upd_n j38, upd_n j39]
  · rw [if_neg hz]
    try rw [if_pos trivial]
    try rw [if_pos rfl]
    congr 1
    simp only [pI_sR, sR_self, sR_sR]
    congr 1
    funext j
    unfold wk
    rw [hq]
    by_cases j38 : j = 38
    · subst j38
      rw [if_pos rfl, upd_n (by omega), upd_n (by omega), if_neg (by rw [← q39]; exact hz), q38]
    · rw [if_neg j38]
      by_cases j39 : j = 39
      · subst j39
        rw [if_pos rfl, upd_n (by omega), upd_s, if_neg (by rw [← q39]; exact hz), q39]
      · rw [if_neg j39]
        by_cases j40 : j = 40
        · subst j40
          rw [if_pos rfl, upd_s, upd_n (by omega), q40]
        · rw [if_neg j40, upd_n j40, upd_n j39]
end MWK
