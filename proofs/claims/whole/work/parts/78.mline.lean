/-! ===== text: the reference's lines ===== -/
def Fm (d D : Dt) : Prop := (∀ a, a ≠ 78 → a ≠ 82 → D.1 a = d.1 a) ∧ ∀ k, ¬ k ∈ [4, 7, 8, 9, 10, 11, 12] → D.1 78 k = d.1 78 k
theorem Fm.rf {d : Dt} : Fm d d := ⟨fun _ _ _ => rfl, fun _ _ => rfl⟩
theorem Fm.tr {d d' d'' : Dt} (h : Fm d d') (h' : Fm d' d'') : Fm d d'' := ⟨fun a x y => (h'.1 a x y).trans (h.1 a x y), fun k hk => (h'.2 k hk).trans (h.2 k hk)⟩
theorem Fm.fk {d D : Dt} (h : Fk d D) : Fm d D := ⟨fun a x _ => h.1 a x, fun k hk => h.2 k (fun q => hk (List.mem_cons_of_mem _ q))⟩
theorem Fm.p82 {d : Dt} {k : Nat} {v : Int32} : Fm d (pI d 82 k v) := ⟨fun a _ y => pI_ne y, fun k _ => by rw [pI_ne (by decide)]⟩
theorem Fm.p4 {d : Dt} {v : Int32} : Fm d (pI d 78 4 v) := ⟨fun a x _ => pI_ne x, fun k hk => pk (fun e => hk (by rw [e]; decide))⟩
theorem TpM.mvm {b : Nat → Nat} {n : Nat} {d D : Dt} (h : TpM b n d) (f : Fm d D) : TpM b n D := ⟨h.1, fun i hi => ⟨(h.2.1 i hi).1, by rw [f.1 83 (by omega) (by omega)]; exact (h.2.1 i hi).2⟩, (f.2 6 (by decide)).trans h.2.2⟩
def Mst (b : Nat → Nat) (n : Nat) (D : Dt) (φ : Nat × Nat) (p : Nat) : Prop := (φ.1 = 0 → MT b n D p) ∧ (¬ φ.1 = 0 → MF D φ.1 φ.2)
theorem Mst.mv {b : Nat → Nat} {n p : Nat} {φ : Nat × Nat} {d D : Dt} (h : Mst b n d φ p) (e : ∀ k, k ≠ 4 → D.1 78 k = d.1 78 k) : Mst b n D φ p := by
  unfold Mst MT MF at *
  rw [e 7 (by omega), e 8 (by omega), e 9 (by omega), e 10 (by omega), e 11 (by omega), e 12 (by omega)]
  exact h
theorem Mst.p82 {b : Nat → Nat} {n p k : Nat} {v : Int32} {φ : Nat × Nat} {d : Dt} (h : Mst b n d φ p) : Mst b n (pI d 82 k v) φ p := h.mv (fun k _ => by rw [pI_ne (by decide)])
def Dr (d : Dt) (r : Rw) : Prop := ∀ j, j < 60 → j ≠ 39 → d.1 82 j = r j
theorem MF.ne {d : Dt} {c q : Nat} (h : MF d c q) : ¬ d.1 78 11 = 0 := by
  obtain ⟨h1, -, h3, h4⟩ := h
  rw [h1]
  exact nI_ne0 (by omega) (by omega)
theorem MF.mk0 {d : Dt} {c q : Nat} (h8 : d.1 78 8 = nI q) (hc : 1 ≤ c) (hc5 : c ≤ 5) : MF (pI (pI d 78 11 (nI c)) 78 12 (d.1 78 8)) c q := ⟨by rw [pk (by decide), ps], by rw [ps]; exact h8, hc, hc5⟩
theorem m_J25f {d : Dt} {v1 v2 : Int32} (h : ¬ d.1 78 11 = 0) : f_X9_looked_J25 L0 d 78 v1 v2 = some (0, d) := by
  unfold f_X9_looked_J25
  rw [M_cls, if_pos rfl, if_neg h, if_neg h]
theorem m_lookf {d : Dt} {v1 v2 : Int32} (h : ¬ d.1 78 11 = 0) : f_X9_looked L0 d 78 v1 v2 = some (0, d) := by
  unfold f_X9_looked
  rw [M_cls, if_pos rfl, if_neg h, m_J25f h]
theorem m_rnf {d : Dt} {c q : Nat} {v1 v2 : Int32} (h : MF d c q) : f_X9_readNumber L0 d 78 v1 v2 = some (0, d) := by
  unfold f_X9_readNumber
  rw [M_cls, if_pos rfl, m_lookf h.ne, Option.bind_some, show f_X9_reads L0 ((0 : Int32), d).2 78 = _ from m_readsf h, Option.bind_some]
section MLN
variable {b : Nat → Nat} {n : Nat}
theorem m_looked {d : Dt} {p lo hi : Nat} (hT : MT b n d p) (hlo : lo < 100) (hhi : hi < 100) : ∃ v D, f_X9_looked L0 d 78 (nI lo) (nI hi) = some (v, D) ∧ Fk d D ∧ (cN b n lo hi p = 0 → v = nI (tV b n p) ∧ D = d) ∧ (¬ cN b n lo hi p = 0 → v = 0 ∧ MF D (cN b n lo hi p) (tS b n p)) := by
  have hk := tK_le (b := b) (n := n) (p := p)
  by_cases h1 : tK b n p = 1
  · have hc : cN b n lo hi p = 1 := by unfold cN; rw [if_pos h1]
    have hF := hT.1 h1
    rw [m_lookf hF.ne, hc]
    exact ⟨0, d, rfl, Fk.rf, fun q => absurd q (by decide), fun _ => ⟨rfl, hF⟩⟩
  obtain ⟨h11, h9, h8, h7, h10⟩ := hT.2 h1
  unfold f_X9_looked
  rw [M_cls, if_pos rfl, if_pos h11, h9]
  by_cases h3 : tK b n p = 3
  · rw [if_pos (show nI (tK b n p - 1) = 2 by rw [h3]; rfl)]
    unfold f_X9_looked_J21
    rw [M_cls, if_pos rfl, m_needs1, Option.bind_some]
    unfold f_X9_looked_J25
    rw [M_cls, if_pos rfl, if_pos h11, h10 h3, in_within]
    have hv99 := tV_le h3
    by_cases hv : lo ≤ tV b n p ∧ tV b n p ≤ hi
    · have hc : cN b n lo hi p = 0 := by unfold cN; rw [if_neg h1, if_pos h3, if_pos hv]
      have hw : f_X8_within (nI (tV b n p)) (nI lo) (nI hi) = 1 := (wi_01 _ _ _).resolve_left ((wi_iff (a := lo) (b := hi) (by omega) (by omega)).mpr ⟨_, hv.1, hv.2, rfl⟩)
      rw [hw, m_needs1, Option.bind_some, if_pos h11, h10 h3, hc]
      exact ⟨_, d, rfl, Fk.rf, fun _ => ⟨rfl, rfl⟩, fun q => absurd rfl q⟩
    · have hc : cN b n lo hi p = 3 := by unfold cN; rw [if_neg h1, if_pos h3, if_neg hv]
      have hw : f_X8_within (nI (tV b n p)) (nI lo) (nI hi) = 0 := Decidable.byContradiction (fun h => by
        obtain ⟨m, a, c, em⟩ := (wi_iff (a := lo) (b := hi) (by omega) (by omega)).mp h
        have := nI_inj (by omega) (by omega) em
        omega)
      have hF : MF (pI (pI d 78 11 (nI 3)) 78 12 (d.1 78 8)) 3 (tS b n p) := MF.mk0 h8 (by omega) (by omega)
      rw [hw, show f_X9_needs L0 d 78 (0 : Int32) (3 : Int32) = _ from m_needs0 (c := nI 3) h11, Option.bind_some, if_neg hF.ne, hc]
      exact ⟨0, _, rfl, (Fk.pi (by decide)).tr (Fk.pi (by decide)), fun q => absurd q (by decide), fun _ => ⟨rfl, hF⟩⟩
  · have hc : cN b n lo hi p = 2 := by unfold cN; rw [if_neg h1, if_neg h3]
    have hF : MF (pI (pI d 78 11 (nI 2)) 78 12 (d.1 78 8)) 2 (tS b n p) := MF.mk0 h8 (by omega) (by omega)
    rw [if_neg (show ¬ nI (tK b n p - 1) = 2 from fun q => by have := nI_inj (b := 2) (by omega) (by omega) q; omega)]
    unfold f_X9_looked_J21
    rw [M_cls, if_pos rfl, show f_X9_needs L0 d 78 (0 : Int32) (2 : Int32) = _ from m_needs0 (c := nI 2) h11, Option.bind_some, m_J25f hF.ne, hc]
    exact ⟨0, _, rfl, (Fk.pi (by decide)).tr (Fk.pi (by decide)), fun q => absurd q (by decide), fun _ => ⟨rfl, hF⟩⟩
theorem m_readN {d : Dt} {p lo hi : Nat} {φ : Nat × Nat} (hX : TpM b n d) (hQ : Mst b n d φ p) (hp : p ≤ n) (hlo : lo < 100) (hhi : hi < 100) : ∃ v D, f_X9_readNumber L0 d 78 (nI lo) (nI hi) = some (v, D) ∧ Fk d D ∧ Mst b n D (nx φ (cN b n lo hi p) (tS b n p)) (tE b n p) ∧ ((nx φ (cN b n lo hi p) (tS b n p)).1 = 0 → v = nI (tV b n p)) := by
  by_cases h0 : φ.1 = 0
  · have hT := hQ.1 h0
    obtain ⟨v, D, a1, a2, a3, a4⟩ := m_looked (lo := lo) (hi := hi) hT hlo hhi
    rw [nx_0 h0]
    unfold f_X9_readNumber
    rw [M_cls, if_pos rfl, a1, Option.bind_some]
    by_cases hc : cN b n lo hi p = 0
    · obtain ⟨rfl, rfl⟩ := a3 hc
      obtain ⟨h11, -, -, h7, -⟩ := hT.2 (by rw [(cN_0 hc).1]; omega)
      obtain ⟨D', r1, r2, r3⟩ := m_reads hX h11 h7 (tE_le (b := b) hp).2
      rw [show f_X9_reads L0 (nI (tV b n p), D).2 78 = _ from r1, Option.bind_some]
      exact ⟨_, D', rfl, r2, ⟨fun _ => r3, fun q => absurd hc q⟩, fun _ => rfl⟩
    · obtain ⟨rfl, hF⟩ := a4 hc
      rw [show f_X9_reads L0 ((0 : Int32), D).2 78 = _ from m_readsf hF, Option.bind_some]
      exact ⟨_, D, rfl, a2, ⟨fun q => absurd q hc, fun _ => hF⟩, fun q => absurd q hc⟩
  · rw [nx_f h0]
    exact ⟨0, d, m_rnf (hQ.2 h0), Fk.rf, ⟨fun q => absurd q h0, fun _ => hQ.2 h0⟩, fun q => absurd q h0⟩
theorem m_nst {d : Dt} {p lo hi j : Nat} {φ : Nat × Nat} {r : Rw} (hX : TpM b n d) (hQ : Mst b n d φ p) (hp : p ≤ n) (hlo : lo < 100) (hhi : hi < 100) : ∃ v D, f_X9_readNumber L0 d 78 (nI lo) (nI hi) = some (v, D) ∧ Fm d (pI D 82 j v) ∧ (pI D 82 j v).1 78 4 = d.1 78 4 ∧ Mst b n (pI D 82 j v) (nx φ (cN b n lo hi p) (tS b n p)) (tE b n p) ∧ ((nx φ (cN b n lo hi p) (tS b n p)).1 = 0 → Dr d r → Dr (pI D 82 j v) (upd r j (nI (tV b n p)))) := by
  obtain ⟨v, D, a1, a2, a3, a4⟩ := m_readN (lo := lo) (hi := hi) hX hQ hp hlo hhi
  refine ⟨v, D, a1, (Fm.fk a2).tr Fm.p82, by rw [pI_ne (by decide)]; exact a2.2 4 (by decide), a3.p82, fun h0 hr k hk hk2 => ?_⟩
  by_cases e : k = j
  · rw [e, ps, upd_s, a4 h0]
  · rw [pk e, upd_n e, a2.1 82 (by decide)]
    exact hr k hk hk2
theorem m_seas {d : Dt} {p s : Nat} {φ : Nat × Nat} {r : Rw} (hX : TpM b n d) (hQ : Mst b n d φ p) (hp : p ≤ n) (hs : s < 4) (hr : Dr d r) : ∃ D, f_X9_readSeason L0 d 78 (nI s) = some D ∧ Fm d D ∧ D.1 78 4 = d.1 78 4 ∧ Mst b n D (nx (nx (nx φ (cN b n 1 9 p) (tS b n p)) (cN b n 0 9 (tE b n p)) (tS b n (tE b n p))) (cN b n 0 99 (tE b n (tE b n p))) (tS b n (tE b n (tE b n p)))) (tE b n (tE b n (tE b n p))) ∧ ((nx (nx (nx φ (cN b n 1 9 p) (tS b n p)) (cN b n 0 9 (tE b n p)) (tS b n (tE b n p))) (cN b n 0 99 (tE b n (tE b n p))) (tS b n (tE b n (tE b n p)))).1 = 0 → Dr D (seR r s (tV b n p) (tV b n (tE b n p)) (tV b n (tE b n (tE b n p))))) := by
  have hp1 := (tE_le (b := b) hp).2
  have hp2 := (tE_le (b := b) hp1).2
  obtain ⟨v1, D1, a1, a2, a3, a4, a5⟩ := m_nst (lo := 1) (hi := 9) (j := 3 * s + 0) (r := r) hX hQ hp (by omega) (by omega)
  obtain ⟨v2, D2, b1, b2, b3, b4, b5⟩ := m_nst (lo := 0) (hi := 9) (j := 3 * s + 1) (r := upd r (3 * s + 0) (nI (tV b n p))) (hX.mvm a2) a4 hp1 (by omega) (by omega)
  obtain ⟨v3, D3, c1, c2, c3, c4, c5⟩ := m_nst (lo := 0) (hi := 99) (j := 3 * s + 2) (r := upd (upd r (3 * s + 0) (nI (tV b n p))) (3 * s + 1) (nI (tV b n (tE b n p)))) (hX.mvm (a2.tr b2)) b4 hp2 (by omega) (by omega)
  have i0 : ((3 : Int32) * nI s) + (0 : Int32) = nI (3 * s + 0) := ix3 s 0
  have i1 : ((3 : Int32) * nI s) + (1 : Int32) = nI (3 * s + 1) := ix3 s 1
  have i2 : ((3 : Int32) * nI s) + (2 : Int32) = nI (3 * s + 2) := ix3 s 2
  unfold f_X9_readSeason
  rw [M_draft, Option.bind_some, M_cls, if_pos rfl, show f_X9_readNumber L0 d 78 (1 : Int32) (9 : Int32) = _ from a1, Option.bind_some, i0, Mo_draft (by omega), if_pos rfl, nI_clamp (by omega), show f_X9_readNumber L0 (pI (v1, D1).2 82 (3 * s + 0) (v1, D1).1) 78 (0 : Int32) (9 : Int32) = _ from b1, Option.bind_some, i1, Mo_draft (by omega), if_pos rfl, nI_clamp (by omega), show f_X9_readNumber L0 (pI (v2, D2).2 82 (3 * s + 1) (v2, D2).1) 78 (0 : Int32) (99 : Int32) = _ from c1, Option.bind_some, i2, Mo_draft (by omega), if_pos rfl, nI_clamp (by omega)]
  refine ⟨_, rfl, (a2.tr b2).tr c2, c3.trans (b3.trans a3), c4, fun h0 => ?_⟩
  have h1 := (nx_1 h0).1
  exact c5 h0 (b5 h1 (a5 (nx_1 h1).1 hr))
/-! a child -/
def chD (D : Dt) (c : Nat) (v1 v3 v4 : Int32) : Dt := pI (pI (pI (pI D 82 (12 + 5 * c) v1) 82 (12 + 5 * c + 1) (if v3 = 9 then -4 else v3)) 82 (12 + 5 * c + 2) (if v3 = 9 then 0 else v4)) 82 37 (nI (c + 1))
theorem m_J83 {D : Dt} {c : Nat} {v3 v4 y0 : Int32} (hc : c < 5) (h37 : D.1 82 37 = nI c) : f_X9_readChild_J83 L0 D 78 ((12 : Int32) + ((5 : Int32) * nI c)) v3 v4 y0 (((12 : Int32) + ((5 : Int32) * nI c)) + (1 : Int32)) 82 = some (pI (pI (pI D 82 (12 + 5 * c + 1) y0) 82 (12 + 5 * c + 2) (if v3 = 9 then 0 else v4)) 82 37 (nI (c + 1))) := by
  have i1 : ((12 : Int32) + ((5 : Int32) * nI c)) + (1 : Int32) = nI (12 + 5 * c + 1) := ixk c 1
  have i2 : ((12 : Int32) + ((5 : Int32) * nI c)) + (2 : Int32) = nI (12 + 5 * c + 2) := ixk c 2
  have o37 : okA L0 82 1 (37 : Int32) = true := Mo_draft (j := 37) (by omega)
  unfold f_X9_readChild_J83
  rw [i1, i2, Mo_draft (by omega), if_pos rfl, M_draft, Option.bind_some, Mo_draft (by omega), o37, t37, nI_clamp (by omega), nI_clamp (by omega)]
  by_cases h9 : v3 = 9
  · rw [if_pos h9, if_pos h9, if_pos rfl, if_pos rfl, pk (by omega), pk (by omega), h37, nI_1]
  · rw [if_neg h9, if_neg h9, if_pos rfl, if_pos rfl, pk (by omega), pk (by omega), h37, nI_1]
theorem m_J38 {d d1 d2 d3 : Dt} {c : Nat} {v1 v3 v4 y0 : Int32} (hc : c < 5) (h1 : f_X9_needs L0 d 78 y0 (3 : Int32) = some d1) (h2 : f_X9_reads L0 d1 78 = some d2) (h3 : f_X9_readNumber L0 d2 78 (1 : Int32) (99 : Int32) = some (v4, d3)) (h37 : d3.1 82 37 = nI c) : f_X9_readChild_J38 L0 d 78 v1 ((12 : Int32) + ((5 : Int32) * nI c)) v3 y0 78 = some (chD d3 c v1 v3 v4) := by
  have i0 : ((12 : Int32) + ((5 : Int32) * nI c)) + (0 : Int32) = nI (12 + 5 * c + 0) := ixk c 0
  have g37 : (pI d3 82 (12 + 5 * c) v1).1 82 37 = nI c := by rw [pk (by omega)]; exact h37
  unfold f_X9_readChild_J38
  rw [M_cls, if_pos rfl, h1, Option.bind_some, if_pos rfl, h2, Option.bind_some, h3, Option.bind_some, M_draft, Option.bind_some, i0, Mo_draft (by omega), if_pos rfl, nI_clamp (by omega)]
  unfold chD
  by_cases h9 : v3 = 9
  · rw [if_pos h9, if_pos h9]
    exact m_J83 hc g37
  · rw [if_neg h9, if_neg h9]
    exact m_J83 hc g37
theorem chD_fm {D : Dt} {c : Nat} {v1 v3 v4 : Int32} : Fm D (chD D c v1 v3 v4) := ((Fm.p82.tr Fm.p82).tr Fm.p82).tr Fm.p82
theorem chD_78 {D : Dt} {c : Nat} {v1 v3 v4 : Int32} : (chD D c v1 v3 v4).1 78 = D.1 78 := by
  unfold chD
  rw [pI_ne (by decide), pI_ne (by decide), pI_ne (by decide), pI_ne (by decide)]
theorem chD_dr {D : Dt} {k s t : Nat} {r : Rw} (hS : SI r) (h5 : nk r < 5) (hs : s < 4 ∨ s = 9) (hr : Dr D r) : Dr (chD D (nk r) (nI k) (nI s) (nI t)) (chR r k s t) := by
  have h9 : nI s = 9 ↔ s = 9 := ⟨fun q => nI_inj (b := 9) (by omega) (by omega) q, fun q => by rw [q]; rfl⟩
  have ec : (nI (nk r)).toNatClampNeg = nk r := nI_clamp (by omega)
  intro j hj hj9
  unfold chD chR
  by_cases e9 : s = 9
  · rw [if_pos (h9.mpr e9), if_pos (h9.mpr e9), if_pos e9]
    by_cases c1 : j = 37
    · rw [c1, ps, boR_37]
    rw [pk c1]
    by_cases c2 : j = 12 + 5 * nk r + 2
    · rw [c2, ps, boR_2 h5 (by omega) (by omega)]
    rw [pk c2]
    by_cases c3 : j = 12 + 5 * nk r + 1
    · rw [c3, ps, boR_1 h5]
    rw [pk c3]
    by_cases c4 : j = 12 + 5 * nk r
    · rw [c4, ps, boR_0 h5]
    rw [pk c4, hr j hj hj9]
    by_cases c5 : 12 + 5 * nk r ≤ j ∧ j < 12 + 5 * nk r + 5
    · obtain ⟨i, rfl, hi2, hi4⟩ : ∃ i, j = 12 + 5 * nk r + i ∧ 2 ≤ i ∧ i ≤ 4 := ⟨j - (12 + 5 * nk r), by omega, by omega, by omega⟩
      rw [boR_2 h5 hi2 hi4]
      exact hS.2.2 _ (by omega) (by omega)
    · rw [boR_ne c1 c5]
  · rw [if_neg (fun q => e9 (h9.mp q)), if_neg (fun q => e9 (h9.mp q)), if_neg e9]
    unfold apR
    rw [ec]
    by_cases c1 : j = 37
    · rw [c1, ps, upd_n (by omega), upd_n (by omega), boR_37]
    rw [pk c1]
    by_cases c2 : j = 12 + 5 * nk r + 2
    · rw [c2, ps, upd_s]
    rw [pk c2, upd_n c2]
    by_cases c3 : j = 12 + 5 * nk r + 1
    · rw [c3, ps, upd_s]
    rw [pk c3, upd_n c3]
    by_cases c4 : j = 12 + 5 * nk r
    · rw [c4, ps, boR_0 h5]
    rw [pk c4, hr j hj hj9]
    by_cases c5 : 12 + 5 * nk r ≤ j ∧ j < 12 + 5 * nk r + 5
    · obtain ⟨i, rfl, hi2, hi4⟩ : ∃ i, j = 12 + 5 * nk r + i ∧ 2 ≤ i ∧ i ≤ 4 := ⟨j - (12 + 5 * nk r), by omega, by omega, by omega⟩
      rw [boR_2 h5 hi2 hi4]
      exact hS.2.2 _ (by omega) (by omega)
    · rw [boR_ne c1 c5]
theorem m_chil {d : Dt} {p k : Nat} {r : Rw} (hX : TpM b n d) (hT : MT b n d p) (hp : p ≤ n) (hS : SI r) (h5 : nk r < 5) (hr : Dr d r) : ∃ D, f_X9_readChild L0 d 78 (nI k) = some D ∧ Fm d D ∧ D.1 78 4 = d.1 78 4 ∧ Mst b n D (nx (cC b n p, tS b n p) (cN b n 1 99 (tE b n p)) (tS b n (tE b n p))) (tE b n (tE b n p)) ∧ ((nx (cC b n p, tS b n p) (cN b n 1 99 (tE b n p)) (tS b n (tE b n p))).1 = 0 → Dr D (chR r k (tV b n p) (tV b n (tE b n p)))) := by
  have hp1 := (tE_le (b := b) hp).2
  have o37 : okA L0 82 1 (37 : Int32) = true := Mo_draft (j := 37) (by omega)
  have e37 : d.1 82 37 = nI (nk r) := (hr 37 (by omega) (by omega)).trans hS.1.1.1
  obtain ⟨v, D1, a1, a2, a3, a4⟩ := m_looked (lo := 0) (hi := 9) hT (by omega) (by omega)
  unfold f_X9_readChild
  rw [M_draft, Option.bind_some, o37, if_pos rfl, M_cls, if_pos rfl, t37, e37, show f_X9_looked L0 d 78 (0 : Int32) (9 : Int32) = _ from a1, Option.bind_some]
  by_cases c0 : cN b n 0 9 p = 0
  · obtain ⟨rfl, rfl⟩ := a3 c0
    have hv9 := (cN_0 c0).2.2
    obtain ⟨h11, -, h8, h7, -⟩ := hT.2 (by rw [(cN_0 c0).1]; omega)
    by_cases hs : tV b n p < 4 ∨ tV b n p = 9
    · have hcC : cC b n p = 0 := by unfold cC; rw [if_pos c0, if_pos hs]
      obtain ⟨D2, r1, r2, r3⟩ := m_reads hX h11 h7 hp1
      obtain ⟨w, D3, s1, s2, s3, s4⟩ := m_readN (lo := 1) (hi := 99) (φ := (0, tS b n p)) (hX.mvm (Fm.fk r2)) ⟨fun _ => r3, fun q => absurd rfl q⟩ hp1 (by omega) (by omega)
      have J : f_X9_readChild_J33 L0 D1 78 (nI k) ((12 : Int32) + ((5 : Int32) * nI (nk r))) (nI (tV b n p)) 78 = _ := m_J38 (v1 := nI k) (v3 := nI (tV b n p)) (y0 := 1) h5 m_needs1 r1 s1 (by rw [s2.1 82 (by decide), r2.1 82 (by decide)]; exact e37)
      have hJ : (if nI (tV b n p) < (4 : Int32) then (f_X9_readChild_J33 L0 D1 78 (nI k) ((12 : Int32) + ((5 : Int32) * nI (nk r))) (nI (tV b n p)) 78) else (if nI (tV b n p) = (9 : Int32) then (f_X9_readChild_J33 L0 D1 78 (nI k) ((12 : Int32) + ((5 : Int32) * nI (nk r))) (nI (tV b n p)) 78) else (f_X9_readChild_J38 L0 D1 78 (nI k) ((12 : Int32) + ((5 : Int32) * nI (nk r))) (nI (tV b n p)) (0 : Int32) 78))) = f_X9_readChild_J33 L0 D1 78 (nI k) ((12 : Int32) + ((5 : Int32) * nI (nk r))) (nI (tV b n p)) 78 := by
        by_cases z : tV b n p < 4
        · rw [if_pos (show nI (tV b n p) < 4 from nI_lt (b := 4) z (by omega))]
        · rw [if_neg (show ¬ nI (tV b n p) < 4 from nI_nlt (b := 4) (by omega) (by omega)), if_pos (show nI (tV b n p) = 9 by rw [hs.resolve_left z]; rfl)]
      refine ⟨_, hJ.trans J, ((Fm.fk r2).tr (Fm.fk s2)).tr chD_fm, by rw [chD_78, s2.2 4 (by decide), r2.2 4 (by decide)], ?_, fun h0 => ?_⟩
      · rw [hcC]
        exact s3.mv (fun k _ => by rw [chD_78])
      · rw [hcC] at h0
        rw [s4 h0]
        exact chD_dr hS h5 hs (fun j hj hj9 => by rw [s2.1 82 (by decide), r2.1 82 (by decide)]; exact hr j hj hj9)
    · have hcC : cC b n p = 3 := by unfold cC; rw [if_pos c0, if_neg hs]
      have hF : MF (pI (pI D1 78 11 (nI 3)) 78 12 (D1.1 78 8)) 3 (tS b n p) := MF.mk0 h8 (by omega) (by omega)
      have J := m_J38 (c := nk r) (v1 := nI k) (v3 := nI (tV b n p)) (y0 := 0) h5 (m_needs0 (c := nI 3) h11) (m_readsf hF) (m_rnf hF) (by rw [pI_ne (by decide), pI_ne (by decide)]; exact e37)
      rw [show ∀ x y : Option Dt, (if (nI (tV b n p), D1).1 < (4 : Int32) then x else y) = y from fun x y => if_neg (nI_nlt (b := 4) (by omega) (by omega)), show ∀ x y : Option Dt, (if (nI (tV b n p), D1).1 = (9 : Int32) then x else y) = y from fun x y => if_neg (fun z => hs (Or.inr (nI_inj (b := 9) (by omega) (by omega) z)))]
      refine ⟨_, J, ((Fm.fk (Fk.pi (by decide))).tr (Fm.fk (Fk.pi (by decide)))).tr chD_fm, by rw [chD_78, pk (by decide), pk (by decide)], ?_, fun h0 => ?_⟩
      · rw [hcC, nx_c (c := 3) (by omega)]
        exact Mst.mv (d := pI (pI D1 78 11 (nI 3)) 78 12 (D1.1 78 8)) ⟨fun q => absurd q (show ¬ (3 : Nat) = 0 by decide), fun _ => hF⟩ (fun k _ => by rw [chD_78])
      · rw [hcC, nx_c (c := 3) (by omega)] at h0
        exact absurd h0 (show ¬ (3 : Nat) = 0 by decide)
  · obtain ⟨rfl, hF⟩ := a4 c0
    have hcC : cC b n p = cN b n 0 9 p := by unfold cC; rw [if_neg c0]
    have J : f_X9_readChild_J33 L0 D1 78 (nI k) ((12 : Int32) + ((5 : Int32) * nI (nk r))) (0 : Int32) 78 = _ := m_J38 (c := nk r) (v1 := nI k) (v3 := 0) (y0 := 1) h5 m_needs1 (m_readsf hF) (m_rnf hF) (by rw [a2.1 82 (by decide)]; exact e37)
    rw [show ∀ x y : Option Dt, (if ((0 : Int32), D1).1 < (4 : Int32) then x else y) = x from fun x y => if_pos (show (0 : Int32) < 4 by decide)]
    refine ⟨_, J, (Fm.fk a2).tr chD_fm, by rw [chD_78, a2.2 4 (by decide)], ?_, fun h0 => ?_⟩
    · rw [hcC, nx_c c0]
      exact Mst.mv (d := D1) ⟨fun q => absurd q c0, fun _ => hF⟩ (fun k _ => by rw [chD_78])
    · rw [hcC, nx_c c0] at h0
      exact absurd h0 c0
end MLN
