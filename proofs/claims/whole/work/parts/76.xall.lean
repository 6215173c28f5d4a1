/-! ===== text: the class reads all ===== -/
def r00 : Rw := fun j => if j < 12 then (if j % 3 = 0 then 3 else if j % 3 = 1 then 1 else 99) else if j = 39 then 3 else 0
theorem r00_nk : nk r00 = 0 := by decide
theorem r00_ns : ns r00 = 0 := by decide
theorem r00_s : ∀ s, s < 4 → r00 (3 * s) = 3 ∧ r00 (3 * s + 1) = 1 ∧ r00 (3 * s + 2) = 99 := by decide
theorem r00_0 : ∀ j, j < 60 → 12 ≤ j → j ≠ 39 → r00 j = 0 := by decide
theorem SI0 : SI r00 := by
  refine ⟨⟨⟨by rw [r00_nk]; decide, by rw [r00_nk]; decide⟩, ⟨0, by omega, by decide⟩, ⟨3, by omega, by omega, by decide⟩, trivial, ⟨by rw [r00_ns]; decide, by rw [r00_ns]; decide⟩, fun s hs => ?_, fun c hc => ?_, fun i hi => ?_⟩, by decide, fun j a c => r00_0 j (by omega) (by omega) (by omega)⟩
  · obtain ⟨q0, q1, q2⟩ := r00_s s hs
    exact ⟨⟨3, by omega, by omega, q0⟩, ⟨1, by omega, q1⟩, ⟨99, by omega, q2⟩⟩
  · rw [r00_nk] at hc; omega
  · rw [r00_ns] at hi; omega
theorem x_spring {d : Dt} : ∃ D, f_X7_beginAtSpring L0 d 18 = some D ∧ Bw 18 d D ∧ ((∀ a, a ≠ 18 → D.1 a = d.1 a) ∧ D.1 18 2 = d.1 18 2 ∧ D.1 18 3 = 0 ∧ D.1 18 4 = d.1 (18 + 6 + 0) 0 ∧ D.1 18 5 = 0 ∧ D.1 18 9 = d.1 18 9) := by
  unfold f_X7_beginAtSpring
  rw [W_cls isW18, if_pos rfl, W_se isW18, Option.bind_some, show ra L0 (18 + 1) 5 (0 : Int32) = _ from W_ras isW18 (s := 0) (by omega), Option.bind_some, W_scl isW18 (s := 0) (by omega), if_pos rfl, pI_ne (by decide)]
  exact ⟨_, rfl, ((Bw.pI (by omega)).tr (Bw.pI (by omega))).tr (Bw.pI (by omega)), fun a ha => by rw [pI_ne ha, pI_ne ha, pI_ne ha], by rw [pk (by decide), pk (by decide), pk (by decide)], by rw [pk (by decide), pk (by decide), ps], by rw [pk (by decide), ps], ps, by rw [pk (by decide), pk (by decide), pk (by decide)]⟩
def fin (r : Rw) : Rw := upd r 39 (r 0)
theorem fin_ne {r : Rw} {j : Nat} (h : j ≠ 39) : fin r j = r j := upd_n h
theorem fin_nk {r : Rw} : nk (fin r) = nk r := by unfold nk; rw [fin_ne (by omega)]
theorem fin_ns {r : Rw} : ns (fin r) = ns r := by unfold ns; rw [fin_ne (by omega)]
theorem SI.fnG {r : Rw} (h : SI r) : Good (fin r) := by
  obtain ⟨⟨g1, g2, g3, g4, g5, g6, g7, g8⟩, h2, h3⟩ := h
  have h5 := g1.2
  have h6 := g5.2
  refine ⟨by rw [fin_nk, fin_ne (by omega)]; exact g1, by rw [fin_ne (by omega)]; exact g2, ?_, trivial, by rw [fin_ns, fin_ne (by omega)]; exact g5, fun s hs => ?_, fun c hc => ?_, fun i hi => ?_⟩
  · obtain ⟨x, a, c, e⟩ := (g6 0 (by omega)).1
    exact ⟨x, a, c, by unfold fin; rw [upd_s]; exact e⟩
  · have := g6 s hs
    unfold GS at *
    rw [fin_ne (by omega), fin_ne (by omega), fin_ne (by omega)]
    exact this
  · rw [fin_nk] at hc
    have := g7 c hc
    unfold GK at *
    rw [fin_ne (by omega), fin_ne (by omega), fin_ne (by omega), fin_ne (by omega), fin_ne (by omega)]
    exact this
  · rw [fin_ns] at hi
    rw [fin_nk, fin_ne (by omega), fin_ne (by omega), fin_ne (by omega)]
    exact g8 i hi
theorem RW.spring {d D : Dt} {r : Rw} (hR : RW d 18 r) (hS : SI r) (g1 : ∀ a, a ≠ 18 → D.1 a = d.1 a) (g2 : D.1 18 2 = d.1 18 2) (g3 : D.1 18 3 = 0) (g4 : D.1 18 4 = d.1 (18 + 6 + 0) 0) (g5 : D.1 18 5 = 0) (g9 : D.1 18 9 = d.1 18 9) : RW D 18 (fin r) := by
  obtain ⟨⟨r1, r2, r3, r4, r5⟩, r6, r7, r8⟩ := hR
  have h5 := hS.1.1.2
  have h6 := hS.1.2.2.2.2.1.2
  refine ⟨⟨by rw [g2, fin_ne (by omega)]; exact r1, by rw [g3, fin_ne (by omega)]; exact hS.2.1.1.symm, by rw [g4]; unfold fin; rw [upd_s]; exact (r6 0 (by omega)).1, by rw [g5, fin_ne (by omega)]; exact hS.2.1.2.2.1.symm, by rw [g9, fin_ne (by omega)]; exact r5⟩, fun s hs => by rw [g1 _ (by omega), fin_ne (by omega), fin_ne (by omega), fin_ne (by omega)]; exact r6 s hs, fun c hc => ?_, fun i hi => ?_⟩
  · rw [fin_nk] at hc
    have := r7 c hc
    unfold KR at *
    rw [g1 _ (by omega), fin_ne (by omega), fin_ne (by omega), fin_ne (by omega), fin_ne (by omega), fin_ne (by omega)]
    exact this
  · rw [fin_ns] at hi
    rw [g1 _ (by omega), g1 _ (by omega), g1 _ (by omega), fin_ne (by omega), fin_ne (by omega), fin_ne (by omega)]
    exact r8 i hi
theorem x_renL : ∀ (f s : Nat) (d : Dt), s ≤ 4 → 4 - s < f → (∀ t, t < s → d.1 (18 + 6 + t) 0 = 3 ∧ d.1 (18 + 6 + t) 1 = 1 ∧ d.1 (18 + 6 + t) 2 = 99) → ∃ D, f_X7_renew_L2 L0 18 f (nI s) d = some D ∧ Bw 18 d D ∧ RW D 18 r00 := by
  intro f
  induction f with
  | zero => intro s d h1 h2; omega
  | succ f ih =>
    intro s d h1 h2 hT
    unfold f_X7_renew_L2
    by_cases hs : s < 4
    · rw [if_neg (show ¬ (4 : Int32) ≤ nI s from nI_ge (b := 4) hs (by omega)), W_se isW18, Option.bind_some, W_ras isW18 hs, Option.bind_some, W_scl isW18 hs, if_pos rfl]
      unfold f_X4_renew
      rw [W_scl isW18 hs, if_pos rfl, Option.bind_some, nI_1]
      obtain ⟨D, e, F, g⟩ := ih (s + 1) (pI (pI (pI d (18 + 6 + s) 0 3) (18 + 6 + s) 1 1) (18 + 6 + s) 2 99) (by omega) (by omega) (fun t ht => by
        by_cases et : t = s
        · rw [et]
          exact ⟨by rw [pk (by decide), pk (by decide), ps], by rw [pk (by decide), ps], ps⟩
        · rw [pI_ne (by omega), pI_ne (by omega), pI_ne (by omega)]
          exact hT t (by omega))
      exact ⟨D, e, (((Bw.pI (by omega)).tr (Bw.pI (by omega))).tr (Bw.pI (by omega))).tr F, g⟩
    · have : s = 4 := by omega
      subst this
      obtain ⟨D, e, F, g1, g2, g3, g4, g5, g9⟩ := x_spring (d := pI (pI d 18 2 0) 18 9 0)
      rw [if_pos (show (4 : Int32) ≤ nI 4 by decide), W_cls isW18, if_pos rfl, e, Option.bind_some]
      have q : ∀ t, t < 4 → D.1 (18 + 6 + t) = d.1 (18 + 6 + t) := fun t ht => by rw [g1 _ (by omega), pI_ne (by omega), pI_ne (by omega)]
      refine ⟨D, rfl, ((Bw.pI (by omega)).tr (Bw.pI (by omega))).tr F, ⟨by rw [g2, pk (by decide), ps]; decide, by rw [g3]; decide, by rw [g4, pI_ne (by omega), pI_ne (by omega), (hT 0 (by omega)).1]; decide, by rw [g5]; decide, by rw [g9, ps]; decide⟩, fun s hs => ?_, fun c hc => ?_, fun i hi => ?_⟩
      · obtain ⟨a0, a1, a2⟩ := r00_s s hs
        rw [q s hs, a0, a1, a2]
        exact hT s hs
      · rw [r00_nk] at hc; omega
      · rw [r00_ns] at hi; omega
def rn (b : Nat → Nat) (n : Nat) : Nat → Rw → Nat → Nat → Nat → (Nat × Nat) × Rw × Nat
  | 0, r, _, _, k => ((0, 0), r, k)
  | f + 1, r, M, p, k => if tK b n p = 0 then ((0, 0), r, k) else if (phL b n r M p).1 = 0 then rn b n f (roL b n r p) (toL b n M p) (poL b n p) (k + 1) else (phL b n r M p, r, k)
section XAL
variable {b : Nat → Nat} {n : Nat}
theorem ph_li {r : Rw} {M p : Nat} (h : (phL b n r M p).1 = 0) : li b n p < 8 := by
  have := li_le (b := b) (n := n) (p := p)
  by_cases h8 : li b n p < 8
  · exact h8
  · unfold phL at h
    rw [if_neg (by omega), if_neg h8] at h
    have h : (if tK b n p = 1 then 1 else 2) = 0 := h
    split at h <;> omega
theorem rn_ok : ∀ (f : Nat) (r : Rw) (M p k : Nat), SI r → M < 256 → SI (rn b n f r M p k).2.1 := by
  intro f
  induction f with
  | zero => intro r M p k h _; exact h
  | succ f ih =>
    intro r M p k h hM
    unfold rn
    split
    · exact h
    · split
      · rename_i h1 h2
        obtain ⟨a, c⟩ := ln_ok h hM (ph_li h2) h2
        exact ih _ _ _ _ a c
      · exact h
theorem x_all : ∀ (f p k M : Nat) (r : Rw) (d : Dt), p ≤ n → n - p < f → k ≤ p → TpX b n d → CT b n d p → SI r → RW d 18 r → M < 256 → d.1 33 1 = nI (M / 16) → d.1 33 2 = 0 → ∃ v D, f_X3_readAll_L30 L0 33 18 f (nI k) d = some (v, D) ∧ Fy d D ∧ ((rn b n f r M p k).1.1 = 0 → v = nI (rn b n f r M p k).2.2 ∧ D.1 33 2 = 0 ∧ RW D 18 (fin (rn b n f r M p k).2.1)) ∧ (¬ (rn b n f r M p k).1.1 = 0 → XF D (rn b n f r M p k).1.1 (rn b n f r M p k).1.2) := by
  intro f
  induction f with
  | zero => intro p k M r d h1 h2; omega
  | succ f ih =>
    intro p k M r d h1 h2 hkp hX hC hS hR hM ht h3
    have hn := hX.1
    have hk4 := tK_le (b := b) (n := n) (p := p)
    unfold f_X3_readAll_L30 rn
    rw [W_cls isW18, if_pos rfl, Rd_t, Option.bind_some, T_cls, if_pos rfl, hC.1]
    by_cases h0 : tK b n p = 0
    · obtain ⟨D, e, F, g1, g2, g3, g4, g5, g9⟩ := x_spring (d := d)
      rw [if_pos h0, if_pos (show nI (tK b n p) = 0 by rw [h0]; rfl), e, Option.bind_some, ite_self]
      exact ⟨_, D, rfl, Fy.bw F, fun _ => ⟨rfl, by rw [g1 33 (by omega)]; exact h3, hR.spring hS g1 g2 g3 g4 g5 g9⟩, fun q => absurd rfl q⟩
    · have hlt := tE_lt (b := b) h1 h0
      have hle := tE_le (b := b) h1
      obtain ⟨z, D, q1, q2, q3, q4⟩ := x_line hX hC h1 hR hS.1 hM ht h3
      rw [if_neg h0, if_neg (show ¬ (160 : Int32) ≤ nI k from nI_ge (b := 160) (by omega) (by omega)), if_neg (show ¬ nI (tK b n p) = 0 from nI_ne0 (by omega) (by omega)), Rd_cls, if_pos rfl, q1, Option.bind_some]
      by_cases hφ : (phL b n r M p).1 = 0
      · obtain ⟨rfl, a2, a3, a4, a5⟩ := q3 hφ
        have hli := ph_li hφ
        have hpo := po_le (b := b) h1 hli
        obtain ⟨s1, s2⟩ := ln_ok hS hM hli hφ
        obtain ⟨D', t1, t2, t3⟩ := x_tok (hX.mvy q2) a5 hpo.2
        rw [if_pos hφ, if_neg one_ne, show f_X6_readToken L0 ((1 : Int32), D).2 1 = _ from t1, Option.bind_some, nI_1]
        obtain ⟨v, D'', u1, u2, u3, u4⟩ := ih (poL b n p) (k + 1) (toL b n M p) (roL b n r p) D' hpo.2 (by omega) (by omega) ((hX.mvy q2).mv t2) t3 s1 (a2.fx (Fx.ft t2) s1.1.1.2) s2 (by rw [t2.1 33 (by omega)]; exact a3) (by rw [t2.1 33 (by omega)]; exact a4)
        exact ⟨v, D'', u1, (q2.tr (Fy.fx (Fx.ft t2))).tr u2, u3, u4⟩
      · obtain ⟨rfl, a2⟩ := q4 hφ
        obtain ⟨D', e, F, g1, -⟩ := x_spring (d := D)
        rw [if_neg hφ, if_pos rfl, if_pos rfl, show f_X7_beginAtSpring L0 ((0 : Int32), D).2 18 = _ from e, Option.bind_some]
        refine ⟨_, D', rfl, q2.tr (Fy.bw F), fun q => absurd q hφ, fun _ => ?_⟩
        unfold XF at *
        rw [g1 33 (by omega)]
        exact a2
theorem x_readAll {d : Dt} (hX : TpX b n d) : ∃ v D, f_X3_readAll L0 d 33 18 = some (v, D) ∧ Fy d D ∧ ((rn b n FU r00 0 0 0).1.1 = 0 → v = nI (rn b n FU r00 0 0 0).2.2 ∧ D.1 33 2 = 0 ∧ RW D 18 (fin (rn b n FU r00 0 0 0).2.1)) ∧ (¬ (rn b n FU r00 0 0 0).1.1 = 0 → XF D (rn b n FU r00 0 0 0).1.1 (rn b n FU r00 0 0 0).1.2) := by
  have hn := hX.1
  obtain ⟨D0, e0, F0, R0⟩ := x_renL FU 0 d (by omega) (by unfold FU; omega) (fun t ht => absurd ht (by omega))
  unfold f_X3_readAll
  rw [W_cls isW18, if_pos rfl, show f_X7_renew L0 d 18 = _ from e0, Option.bind_some, Rd_t, Option.bind_some, T_cls, if_pos rfl]
  unfold f_X6_rewind
  rw [T_cls, if_pos rfl, Option.bind_some, Rd_cls, if_pos rfl]
  have F1 : Fy d (pI (pI (pI D0 1 5 0) 33 1 0) 33 2 0) := ((Fy.bw F0).tr ⟨fun a ha _ => pI_ne ha, pk (by decide)⟩).tr ((Fy.pi (by omega)).tr (Fy.pi (by omega)))
  have R1 : RW (pI (pI (pI D0 1 5 0) 33 1 0) 33 2 0) 18 r00 := R0.mv (fun a _ _ => by rw [pI_ne (by omega), pI_ne (by omega), pI_ne (by omega)]) (by rw [r00_nk]; omega)
  have h5 : (pI (pI (pI D0 1 5 0) 33 1 0) 33 2 0).1 1 5 = nI 0 := by rw [pI_ne (by omega), pI_ne (by omega), ps]; rfl
  have h2 : (pI (pI (pI D0 1 5 0) 33 1 0) 33 2 0).1 33 1 = nI (0 / 16) := by rw [pk (by decide), ps]; rfl
  have h3 : (pI (pI (pI D0 1 5 0) 33 1 0) 33 2 0).1 33 2 = 0 := ps
  generalize pI (pI (pI D0 1 5 0) 33 1 0) 33 2 0 = D1 at *
  obtain ⟨D2, t1, t2, t3⟩ := x_tok (hX.mvy F1) h5 (by omega)
  rw [t1, Option.bind_some]
  obtain ⟨v, D3, u1, u2, u3⟩ := x_all FU 0 0 0 r00 D2 (by omega) (by unfold FU; omega) (by omega) ((hX.mvy F1).mv t2) t3 SI0 (R1.fx (Fx.ft t2) (by rw [r00_nk]; omega)) (by omega) (by rw [t2.1 33 (by omega)]; exact h2) (by rw [t2.1 33 (by omega)]; exact h3)
  exact ⟨v, D3, u1, (F1.tr (Fy.fx (Fx.ft t2))).tr u2, u3⟩
end XAL
