/-! ===== text: both read all ===== -/
theorem nbz : vp_nar .boolean 0 = 0 := by decide
theorem m_fd1 : ∀ (f c : Nat) (d : Dt), c ≤ 60 → 60 - c < f → (∀ j, j < c → d.1 82 j = 0) → ∃ D, (∀ K, f_X9_firstDraft_L2 L0 78 K f (nI c) d = K (nI 60) D) ∧ (∀ a, a ≠ 82 → D.1 a = d.1 a) ∧ ∀ j, j < 60 → D.1 82 j = 0 := by
  intro f
  induction f with
  | zero => intro c d h1 h2; omega
  | succ f ih =>
    intro c d h1 h2 hz
    by_cases hc : c < 60
    · obtain ⟨D, e, F, g⟩ := ih (c + 1) (pI d 82 c 0) (by omega) (by omega) (fun j hj => by
        by_cases ej : j = c
        · rw [ej, ps]
        · rw [pk ej]; exact hz j (by omega))
      refine ⟨D, fun K => ?_, fun a ha => by rw [F a ha, pI_ne ha], g⟩
      unfold f_X9_firstDraft_L2
      rw [if_neg (show ¬ (60 : Int32) ≤ nI c from nI_ge (b := 60) hc (by omega)), M_draft, Option.bind_some, Mo_draft hc, if_pos rfl, nI_1, nI_clamp (by omega)]
      exact e K
    · have : c = 60 := by omega
      subst this
      refine ⟨d, fun K => ?_, fun _ _ => rfl, hz⟩
      unfold f_X9_firstDraft_L2
      rw [if_pos (by decide)]
theorem m_fd2 : ∀ (f s : Nat) (d : Dt), s ≤ 4 → 4 - s < f → (∀ t, t < s → d.1 82 (3 * t) = 3 ∧ d.1 82 (3 * t + 1) = 1 ∧ d.1 82 (3 * t + 2) = 99) → ∃ D, f_X9_firstDraft_L23 L0 78 f (nI s) d = some D ∧ (∀ a, a ≠ 78 → a ≠ 82 → D.1 a = d.1 a) ∧ (∀ k, k ≠ 4 → D.1 78 k = d.1 78 k) ∧ D.1 78 4 = 0 ∧ (∀ t, t < 4 → D.1 82 (3 * t) = 3 ∧ D.1 82 (3 * t + 1) = 1 ∧ D.1 82 (3 * t + 2) = 99) ∧ ∀ j, 12 ≤ j → D.1 82 j = d.1 82 j := by
  intro f
  induction f with
  | zero => intro s d h1 h2; omega
  | succ f ih =>
    intro s d h1 h2 hT
    unfold f_X9_firstDraft_L23
    by_cases hs : s < 4
    · have i0 : ((3 : Int32) * nI s) + (0 : Int32) = nI (3 * s + 0) := ix3 s 0
      have i1 : ((3 : Int32) * nI s) + (1 : Int32) = nI (3 * s + 1) := ix3 s 1
      have i2 : ((3 : Int32) * nI s) + (2 : Int32) = nI (3 * s + 2) := ix3 s 2
      rw [if_neg (show ¬ (4 : Int32) ≤ nI s from nI_ge (b := 4) hs (by omega)), M_draft, Option.bind_some, i0, i1, i2, Mo_draft (by omega), if_pos rfl, Mo_draft (by omega), if_pos rfl, Mo_draft (by omega), if_pos rfl, nI_1, nI_clamp (by omega), nI_clamp (by omega), nI_clamp (by omega)]
      obtain ⟨D, e, F1, F2, F3, F4, F5⟩ := ih (s + 1) (pI (pI (pI d 82 (3 * s + 0) 3) 82 (3 * s + 1) 1) 82 (3 * s + 2) 99) (by omega) (by omega) (fun t ht => by
        by_cases et : t = s
        · rw [et]
          exact ⟨by rw [pk (by omega), pk (by omega), show 3 * s = 3 * s + 0 from rfl, ps], by rw [pk (by omega), ps], ps⟩
        · rw [pk (by omega), pk (by omega), pk (by omega), pk (by omega), pk (by omega), pk (by omega), pk (by omega), pk (by omega), pk (by omega)]
          exact hT t (by omega))
      exact ⟨D, e, fun a x y => by rw [F1 a x y, pI_ne y, pI_ne y, pI_ne y], fun k hk => by rw [F2 k hk, pI_ne (by decide), pI_ne (by decide), pI_ne (by decide)], F3, F4, fun j hj => by rw [F5 j hj, pk (by omega), pk (by omega), pk (by omega)]⟩
    · have : s = 4 := by omega
      subst this
      rw [if_pos (show (4 : Int32) ≤ nI 4 by decide), M_cls, if_pos rfl]
      exact ⟨_, rfl, fun a x _ => pI_ne x, fun k hk => pk hk, ps, fun t ht => by rw [pI_ne (by decide)]; exact hT t ht, fun j _ => by rw [pI_ne (by decide)]⟩
theorem m_first {d : Dt} : ∃ D, f_X9_firstDraft L0 d 78 = some D ∧ (∀ a, a ≠ 78 → a ≠ 82 → D.1 a = d.1 a) ∧ (∀ k, k ≠ 4 → D.1 78 k = d.1 78 k) ∧ D.1 78 4 = 0 ∧ Dr D r00 := by
  obtain ⟨D0, e0, F0, g0⟩ := m_fd1 FU 0 d (by omega) (by unfold FU; omega) (fun j hj => absurd hj (by omega))
  obtain ⟨D, e, F1, F2, F3, F4, F5⟩ := m_fd2 FU 0 D0 (by omega) (by unfold FU; omega) (fun j hj => absurd hj (by omega))
  refine ⟨D, ?_, fun a x y => by rw [F1 a x y, F0 a y], fun k hk => by rw [F2 k hk, F0 78 (by decide)], F3, fun j hj hj9 => ?_⟩
  · unfold f_X9_firstDraft
    rw [show ∀ K, f_X9_firstDraft_L2 L0 78 K FU (0 : Int32) d = _ from e0]
    exact e
  · by_cases h12 : j < 12
    · obtain ⟨t, i, ht, hi, rfl⟩ : ∃ t i, t < 4 ∧ i < 3 ∧ j = 3 * t + i := ⟨j / 3, j % 3, by omega, by omega, by omega⟩
      obtain ⟨a0, a1, a2⟩ := r00_s t ht
      obtain ⟨c0, c1, c2⟩ := F4 t ht
      rcases (show i = 0 ∨ i = 1 ∨ i = 2 by omega) with rfl | rfl | rfl
      · exact c0.trans a0.symm
      · exact c1.trans a1.symm
      · exact c2.trans a2.symm
    · rw [F5 j (by omega), g0 j hj, r00_0 j hj (by omega) hj9]
theorem m_keepDL {a st : Rw} : ∀ (f c : Nat) (d : Dt), c ≤ 60 → 60 - c < f → d.1 82 = a → d.1 79 = cpn c a st → f_X9_keepDraft_L15 L0 78 f (nI c) d = some (pI (pI (sR d 79 (cpn 60 a st)) 81 0 0) 81 1 0) := by
  intro f
  induction f with
  | zero => intro c d h1 h2; omega
  | succ f ih =>
    intro c d h1 h2 e82 e79
    unfold f_X9_keepDraft_L15
    by_cases hc : c < 60
    · rw [if_neg (show ¬ (60 : Int32) ≤ nI c from nI_ge (b := 60) hc (by omega)), M_st, Option.bind_some, M_draft, Option.bind_some, Mo_draft hc, if_pos rfl, Mo_st (by omega), if_pos rfl, nI_1, nI_clamp (by omega), e82, ih (c + 1) _ (by omega) (by omega) (by rw [pI_ne (by decide)]; exact e82) (by rw [pI_self, e79]; exact cpn_succ c a st), pI_sR d 79, sR_sR]
    · have : c = 60 := by omega
      subst this
      rw [if_pos (show (60 : Int32) ≤ nI 60 by decide), M_kept, Option.bind_some, show okA L0 81 3 (0 : Int32) = true from Mo_kept (j := 0) (by omega), if_pos rfl, show okA L0 81 3 (1 : Int32) = true from Mo_kept (j := 1) (by omega), if_pos rfl, nbz, ← e79, sR_id]
      rfl
theorem m_keepD {d : Dt} : f_X9_keepDraft L0 d 78 = some (pI (pI (sR (pI d 82 39 (d.1 82 0)) 79 (cpn 60 (upd (d.1 82) 39 (d.1 82 0)) (d.1 79))) 81 0 0) 81 1 0) := by
  unfold f_X9_keepDraft
  rw [M_draft, Option.bind_some, show okA L0 82 1 (0 : Int32) = true from Mo_draft (j := 0) (by omega), if_pos rfl, show okA L0 82 1 (39 : Int32) = true from Mo_draft (j := 39) (by omega), if_pos rfl, t39, show ((0 : Int32)).toNatClampNeg = 0 from rfl]
  exact m_keepDL FU 0 _ (by omega) (by unfold FU; omega) pI_self (by rw [pI_ne (by decide)]; funext j; simp [cpn])
section TXT
variable {b : Nat → Nat} {n : Nat}
theorem m_loop : ∀ (f p k M : Nat) (r : Rw) (d : Dt), p ≤ n → n - p < f → TpM b n d → MT b n d p → SI r → M < 256 → d.1 78 4 = nI M → Dr d r → ∃ D v, f_X9_text_L20 L0 78 f (nI k) d = f_X9_text_J44 L0 D 78 v ∧ Fm d D ∧ ((rn b n f r M p k).1.1 = 0 → v = nI (rn b n f r M p k).2.2 ∧ D.1 78 11 = 0 ∧ Dr D (rn b n f r M p k).2.1) ∧ (¬ (rn b n f r M p k).1.1 = 0 → MF D (rn b n f r M p k).1.1 (rn b n f r M p k).1.2) := by
  intro f
  induction f with
  | zero => intro p k M r d h1 h2; omega
  | succ f ih =>
    intro p k M r d hp h2 hX hT hS hM ht hr
    have hk4 := tK_le (b := b) (n := n) (p := p)
    unfold f_X9_text_L20 rn
    rw [M_cls, if_pos rfl]
    by_cases h1 : tK b n p = 1
    · have hF := hT.1 h1
      have h88 : ¬ li b n p < 8 := fun q => by have := li_k q; omega
      have hφ : phL b n r M p = (1, tS b n p) := by unfold phL; rw [if_neg (by omega), if_neg h88, if_pos h1]
      rw [if_neg hF.ne, if_neg (show ¬ tK b n p = 0 by omega), hφ, if_neg (show ¬ (1 : Nat) = 0 by decide)]
      exact ⟨d, nI k, rfl, Fm.rf, fun q => absurd q (show ¬ (1 : Nat) = 0 by decide), fun _ => hF⟩
    · obtain ⟨h11, h9, -⟩ := hT.2 h1
      rw [if_pos h11, h9]
      by_cases h0 : tK b n p = 0
      · rw [if_pos (show nI (tK b n p - 1) = 0 by rw [h0]; rfl), if_pos h0]
        exact ⟨d, nI k, rfl, Fm.rf, fun _ => ⟨rfl, h11, hr⟩, fun q => absurd rfl q⟩
      · have hlt := tE_lt (b := b) hp h0
        have hle := tE_le (b := b) hp
        obtain ⟨D, e, F, hQ, hO⟩ := m_line hX hT h1 hp hM ht hS hr
        rw [if_neg (nI_ne0 (show 0 < tK b n p - 1 by omega) (by omega)), if_neg h0, e, Option.bind_some, nI_1]
        by_cases hφ : (phL b n r M p).1 = 0
        · obtain ⟨a1, a2⟩ := hO hφ
          have hli := ph_li hφ
          have hpo := po_le (b := b) hp hli
          obtain ⟨s1, s2⟩ := ln_ok hS hM hli hφ
          rw [if_pos hφ]
          obtain ⟨D', v, u1, u2, u3, u4⟩ := ih (poL b n p) (k + 1) (toL b n M p) (roL b n r p) D hpo.2 (by omega) (hX.mvm F) (hQ.1 hφ) s1 s2 a2 a1
          exact ⟨D', v, u1, F.tr u2, u3, u4⟩
        · have hF := hQ.2 hφ
          rw [if_neg hφ]
          cases f with
          | zero => omega
          | succ f =>
            unfold f_X9_text_L20
            rw [M_cls, if_pos rfl, if_neg hF.ne]
            exact ⟨D, nI (k + 1), rfl, F, fun q => absurd q hφ, fun _ => hF⟩
theorem m_text {d : Dt} (hX : TpM b n d) : ∃ D v, f_X9_text L0 d 78 = f_X9_text_J44 L0 D 78 v ∧ Fm d D ∧ ((rn b n FU r00 0 0 0).1.1 = 0 → v = nI (rn b n FU r00 0 0 0).2.2 ∧ D.1 78 11 = 0 ∧ Dr D (rn b n FU r00 0 0 0).2.1) ∧ (¬ (rn b n FU r00 0 0 0).1.1 = 0 → MF D (rn b n FU r00 0 0 0).1.1 (rn b n FU r00 0 0 0).1.2) := by
  have hn := hX.1
  obtain ⟨D0, e0, F1, F2, F3, hr⟩ := m_first (d := pI (pI d 78 11 0) 78 7 0)
  have Fa : Fm d (pI (pI d 78 11 0) 78 7 0) := (Fm.fk (Fk.pi (by decide))).tr (Fm.fk (Fk.pi (by decide)))
  have Fb : Fm d D0 := Fa.tr ⟨F1, fun k hk => F2 k (fun q => hk (by rw [q]; decide))⟩
  have h11 : D0.1 78 11 = 0 := by rw [F2 11 (by decide), pk (by decide), ps]
  have h7 : D0.1 78 7 = nI 0 := by rw [F2 7 (by decide), ps]; rfl
  obtain ⟨D1, r1, r2, r3⟩ := m_reads (hX.mvm Fb) h11 h7 (by omega)
  obtain ⟨D, v, u1, u2, u3⟩ := m_loop FU 0 0 0 r00 D1 (by omega) (by unfold FU; omega) (hX.mvm (Fb.tr (Fm.fk r2))) r3 SI0 (by omega) (by rw [r2.2 4 (by decide), F3]; rfl) (fun j hj hj9 => by rw [r2.1 82 (by decide)]; exact hr j hj hj9)
  refine ⟨D, v, ?_, (Fb.tr (Fm.fk r2)).tr u2, u3⟩
  unfold f_X9_text
  rw [M_cls, if_pos rfl, e0, Option.bind_some, r1, Option.bind_some]
  exact u1
end TXT
theorem Inv.txt {d W : Dt} (hI : Inv d) (hR : RW W 3 (W.1 79)) (hG : Good (W.1 79)) (hIm : ∀ k, k < 2 → Im W k) (h1 : W.1 1 1 = 0) (h6 : W.1 78 6 = 0) (h9 : W.1 0 9 = W.1 78 11) (h10 : W.1 0 10 = d.1 0 10) (h23 : W.1 78 23 = d.1 78 23) (hs : ∀ a, 70 ≤ a → a ≤ 88 → a ≠ 78 → a ≠ 79 → a ≠ 81 → a ≠ 82 → W.1 a = d.1 a) : Inv W :=
  ⟨hR, hG, hIm, ⟨0, by omega, h1, h6, fun i hi => absurd hi (by omega)⟩, h9, by rw [h10, h23]; exact hI.2.2.2.2.2.1, fun k hk => (hI.2.2.2.2.2.2 k hk).mv hk (fun a x y => hs a x (by omega) (by omega) (by omega) (by omega) (by omega)) (hs 86 (by omega) (by omega) (by omega) (by omega) (by omega) (by omega)) (hs 87 (by omega) (by omega) (by omega) (by omega) (by omega) (by omega)) (hs 88 (by omega) (by omega) (by omega) (by omega) (by omega) (by omega))⟩
theorem st_text {d : Dt} (hI : Inv d) : ∃ (z1 : Int32 × Dt) (z2 : Int32 × Dt), f_X8_text L0 d 0 = some z1 ∧ f_X9_text L0 z1.2 78 = some z2 ∧ z1.1 = z2.1 ∧ Inv z2.2 := by
  obtain ⟨hR, hG, h3, h4, h5, h6, h7⟩ := id hI
  obtain ⟨n, hn, t1, t2, t3⟩ := h4
  have hb : ∀ i, i < n → (d.1 83 i).toNatClampNeg ≤ 127 ∧ d.1 83 i = nI ((d.1 83 i).toNatClampNeg) := fun i hi => by
    obtain ⟨-, c, hc, e⟩ := t3 i hi
    rw [e, nI_clamp (by omega)]
    exact ⟨hc, rfl⟩
  have hX : TpX (fun i => (d.1 83 i).toNatClampNeg) n d := ⟨hn, fun i hi => ⟨(hb i hi).1, (t3 i hi).1.trans (hb i hi).2⟩, t1⟩
  generalize hbb : (fun i => (d.1 83 i).toNatClampNeg) = b at hX
  have hbM : ∀ i, i < n → b i ≤ 127 ∧ d.1 83 i = nI (b i) := fun i hi => by rw [← hbb]; exact hb i hi
  obtain ⟨v, D, a1, a2, a3, a4⟩ := x_readAll hX
  have hSI := rn_ok (b := b) (n := n) FU r00 0 0 0 SI0 (by omega)
  generalize hRn : rn b n FU r00 0 0 0 = R at *
  have q0 : ∀ a, a ≠ 0 → a ≠ 1 → (pI (pI D 0 9 (D.1 33 2)) 1 1 0).1 a = D.1 a := fun a x y => by rw [pI_ne y, pI_ne x]
  have q1 : (pI (pI D 0 9 (D.1 33 2)) 1 1 0).1 1 1 = 0 := ps
  have q9 : (pI (pI D 0 9 (D.1 33 2)) 1 1 0).1 0 9 = D.1 33 2 := by rw [pI_ne (by decide), ps]
  have q10 : (pI (pI D 0 9 (D.1 33 2)) 1 1 0).1 0 10 = d.1 0 10 := by rw [pI_ne (by decide), pk (by decide), a2.1 0 (by decide) (by omega)]
  by_cases hc : R.1.1 = 0
  · obtain ⟨rfl, b2, b3⟩ := a3 hc
    have hGf := hSI.fnG
    have R1 : RW (pI (pI D 0 9 (D.1 33 2)) 1 1 0) 18 (fin R.2.1) := b3.mv (fun a _ _ => q0 a (by omega) (by omega)) hGf.1.2
    obtain ⟨D1, c1, c2, c3⟩ := x_copy (w := 18) (w' := 3) isW18 isW3 (by omega) hGf R1
    have hx : f_X8_text L0 d 0 = some (nI R.2.2, pI (pI D1 35 0 0) 35 1 0) := by
      unfold f_X8_text
      rw [X_reader, Option.bind_some, X_trial, Option.bind_some, Rd_cls, if_pos rfl, a1, Option.bind_some, X_cls, if_pos rfl, X_tape, Option.bind_some, T_cls, if_pos rfl]
      rw [if_pos (show (pI (pI (nI R.2.2, D).2 0 9 ((nI R.2.2, D).2.1 33 2)) 1 1 0).1 33 2 = 0 from (by rw [q0 33 (by decide) (by decide)]; exact b2)), X_world, Option.bind_some, W_cls isW3, if_pos rfl]
      rw [show f_X7_copy L0 (pI (pI (nI R.2.2, D).2 0 9 ((nI R.2.2, D).2.1 33 2)) 1 1 0) 3 18 = _ from c1, Option.bind_some]
      show f_X8_text_L65 L0 0 (nI R.2.2) (997 + 1 + 1 + 1) (0 : Int32) D1 = _
      unfold f_X8_text_L65
      rw [if_neg (by decide), X_kept, Option.bind_some, show okA L0 35 3 (0 : Int32) = true from K_ok (k := 0) (by omega), if_pos rfl, nbz]
      unfold f_X8_text_L65
      rw [if_neg (by decide), X_kept, Option.bind_some, show okA L0 35 3 ((0 : Int32) + 1) = true from K_ok (k := 1) (by omega), if_pos rfl, nbz]
      unfold f_X8_text_L65
      rw [if_pos (by decide)]
      rfl
    have z : ∀ a, a ≠ 35 → (pI (pI D1 35 0 0) 35 1 0).1 a = D1.1 a := fun a x => by rw [pI_ne x, pI_ne x]
    have z2 : ∀ a, a ≠ 35 → a ≠ 0 → a ≠ 1 → (a < 3 ∨ 33 < a) → (pI (pI D1 35 0 0) 35 1 0).1 a = d.1 a := fun a x y w u => by rw [z a x, c3.1 a (by omega), q0 a y w, a2.1 a w (by omega)]
    have z35 : ∀ k, k < 2 → (pI (pI D1 35 0 0) 35 1 0).1 35 k = 0 := fun k hk => by
      rcases (show k = 0 ∨ k = 1 by omega) with rfl | rfl
      · rw [pk (by decide), ps]
      · rw [ps]
    have z1 : (pI (pI D1 35 0 0) 35 1 0).1 1 1 = 0 := by rw [z 1 (by decide), c3.1 1 (by omega)]; exact q1
    have z9 : (pI (pI D1 35 0 0) 35 1 0).1 0 9 = 0 := by rw [z 0 (by decide), c3.1 0 (by omega), q9]; exact b2
    have z10 : (pI (pI D1 35 0 0) 35 1 0).1 0 10 = d.1 0 10 := by rw [z 0 (by decide), c3.1 0 (by omega)]; exact q10
    have zR : RW (pI (pI D1 35 0 0) 35 1 0) 3 (fin R.2.1) := c2.mv (fun a _ _ => z a (by omega)) hGf.1.2
    generalize (pI (pI D1 35 0 0) 35 1 0) = Z at *
    have hM : TpM b n Z := ⟨hn, fun i hi => ⟨(hbM i hi).1, by rw [z2 83 (by decide) (by decide) (by decide) (by omega)]; exact (hbM i hi).2⟩, by rw [z2 78 (by decide) (by decide) (by decide) (by omega)]; exact t2⟩
    obtain ⟨D4, v4, m1, m2, m3, -⟩ := m_text hM
    rw [hRn] at m3
    obtain ⟨rfl, m4, m5⟩ := m3 hc
    have hw : f_X9_text L0 Z 78 = some (nI R.2.2, pI (pI (sR (pI (pI D4 78 6 0) 82 39 (D4.1 82 0)) 79 (cpn 60 (upd (D4.1 82) 39 (D4.1 82 0)) (D4.1 79))) 81 0 0) 81 1 0) := by
      rw [m1]
      unfold f_X9_text_J44
      rw [M_cls, if_pos rfl, pk (by decide), m4, if_pos (by decide), m_keepD, Option.bind_some, pI_ne (show 82 ≠ 78 by decide), pI_ne (show 79 ≠ 78 by decide)]
    refine ⟨_, _, hx, hw, rfl, ?_⟩
    have w79 : (pI (pI (sR (pI (pI D4 78 6 0) 82 39 (D4.1 82 0)) 79 (cpn 60 (upd (D4.1 82) 39 (D4.1 82 0)) (D4.1 79))) 81 0 0) 81 1 0).1 79 = cpn 60 (upd (D4.1 82) 39 (D4.1 82 0)) (D4.1 79) := by rw [pI_ne (by decide), pI_ne (by decide), sR_self]
    have w81 : ∀ k, k < 2 → (pI (pI (sR (pI (pI D4 78 6 0) 82 39 (D4.1 82 0)) 79 (cpn 60 (upd (D4.1 82) 39 (D4.1 82 0)) (D4.1 79))) 81 0 0) 81 1 0).1 81 k = 0 := fun k hk => by
      rcases (show k = 0 ∨ k = 1 by omega) with rfl | rfl
      · rw [pk (by decide), ps]
      · rw [ps]
    have w78 : (pI (pI (sR (pI (pI D4 78 6 0) 82 39 (D4.1 82 0)) 79 (cpn 60 (upd (D4.1 82) 39 (D4.1 82 0)) (D4.1 79))) 81 0 0) 81 1 0).1 78 = (pI D4 78 6 0).1 78 := by rw [pI_ne (by decide), pI_ne (by decide), sR_ne (by decide), pI_ne (by decide)]
    have wn : ∀ a, a ≠ 78 → a ≠ 79 → a ≠ 81 → a ≠ 82 → (pI (pI (sR (pI (pI D4 78 6 0) 82 39 (D4.1 82 0)) 79 (cpn 60 (upd (D4.1 82) 39 (D4.1 82 0)) (D4.1 79))) 81 0 0) 81 1 0).1 a = Z.1 a := fun a x y w u => by rw [pI_ne w, pI_ne w, sR_ne y, pI_ne u, pI_ne x, m2.1 a x u]
    generalize (pI (pI (sR (pI (pI D4 78 6 0) 82 39 (D4.1 82 0)) 79 (cpn 60 (upd (D4.1 82) 39 (D4.1 82 0)) (D4.1 79))) 81 0 0) 81 1 0) = W at *
    have ei : Eq60 (fin R.2.1) (W.1 79) := fun j hj => by
      rw [w79]
      unfold cpn fin
      rw [if_pos hj]
      by_cases e : j = 39
      · rw [e, upd_s, upd_s]; exact (m5 0 (by omega) (by omega)).symm
      · rw [upd_n e, upd_n e]; exact (m5 j hj e).symm
    refine hI.txt (RW.eq ei hGf.1.2 hGf.2.2.2.2.1.2 (zR.mv (fun a _ _ => wn a (by omega) (by omega) (by omega) (by omega)) hGf.1.2)) (hGf.eq ei) (fun k hk => ⟨by rw [wn 35 (by omega) (by omega) (by omega) (by omega), z35 k hk, w81 k hk], Or.inl (w81 k hk)⟩) (by rw [wn 1 (by omega) (by omega) (by omega) (by omega)]; exact z1) (by rw [w78, ps]) (by rw [w78, pk (by decide), m4, wn 0 (by omega) (by omega) (by omega) (by omega)]; exact z9) (by rw [wn 0 (by omega) (by omega) (by omega) (by omega)]; exact z10) (by rw [w78, pk (by decide), m2.2 23 (by decide), z2 78 (by decide) (by decide) (by decide) (by omega)]) (fun a x y h1 h2 h3 h4 => by rw [wn a h1 h2 h3 h4, z2 a (by omega) (by omega) (by omega) (by omega)])
  · obtain ⟨f1, f2, f3, f4⟩ := a4 hc
    have hx : f_X8_text L0 d 0 = some ((-10 : Int32) - nI R.1.2, pI (pI D 0 9 (D.1 33 2)) 1 1 0) := by
      unfold f_X8_text
      rw [X_reader, Option.bind_some, X_trial, Option.bind_some, Rd_cls, if_pos rfl, a1, Option.bind_some, X_cls, if_pos rfl, X_tape, Option.bind_some, T_cls, if_pos rfl]
      rw [if_neg (show ¬ (pI (pI (v, D).2 0 9 ((v, D).2.1 33 2)) 1 1 0).1 33 2 = 0 from (by rw [q0 33 (by decide) (by decide)]; rw [f1]; exact nI_ne0 (by omega) (by omega)))]
      show some ((-10 : Int32) - (pI (pI D 0 9 (D.1 33 2)) 1 1 0).1 33 3, pI (pI D 0 9 (D.1 33 2)) 1 1 0) = _
      rw [q0 33 (by decide) (by decide), f2]
    have z2 : ∀ a, a ≠ 0 → a ≠ 1 → (a < 18 ∨ 33 < a) → (pI (pI D 0 9 (D.1 33 2)) 1 1 0).1 a = d.1 a := fun a y w u => by rw [q0 a y w, a2.1 a w (by omega)]
    generalize (pI (pI D 0 9 (D.1 33 2)) 1 1 0) = Z at *
    have hM : TpM b n Z := ⟨hn, fun i hi => ⟨(hbM i hi).1, by rw [z2 83 (by decide) (by decide) (by omega)]; exact (hbM i hi).2⟩, by rw [z2 78 (by decide) (by decide) (by omega)]; exact t2⟩
    obtain ⟨D4, v4, m1, m2, -, m3⟩ := m_text hM
    rw [hRn] at m3
    obtain ⟨g1, g2, -, -⟩ := m3 hc
    have hw : f_X9_text L0 Z 78 = some ((-10 : Int32) - nI R.1.2, pI D4 78 6 0) := by
      rw [m1]
      unfold f_X9_text_J44
      rw [M_cls, if_pos rfl, pk (by decide), pk (by decide), g1, g2, if_neg (nI_nle (by omega) (by omega))]
    refine ⟨_, _, hx, hw, rfl, ?_⟩
    have wn : ∀ a, a ≠ 78 → a ≠ 82 → (pI D4 78 6 0).1 a = Z.1 a := fun a x u => by rw [pI_ne x, m2.1 a x u]
    have w6 : (pI D4 78 6 0).1 78 6 = 0 := ps
    have w11 : (pI D4 78 6 0).1 78 11 = nI R.1.1 := by rw [pk (by decide)]; exact g1
    have w23 : (pI D4 78 6 0).1 78 23 = d.1 78 23 := by rw [pk (by decide), m2.2 23 (by decide), z2 78 (by decide) (by decide) (by omega)]
    generalize (pI D4 78 6 0) = W at *
    have wd : ∀ a, a ≠ 78 → a ≠ 82 → a ≠ 0 → a ≠ 1 → (a < 18 ∨ 33 < a) → W.1 a = d.1 a := fun a x u y w s => by rw [wn a x u, z2 a y w s]
    have e79 : W.1 79 = d.1 79 := wd 79 (by decide) (by decide) (by decide) (by decide) (by omega)
    refine hI.txt (by rw [e79]; exact hR.mv (fun a _ _ => wd a (by omega) (by omega) (by omega) (by omega) (by omega)) hG.1.2) (by rw [e79]; exact hG) (fun k hk => (h3 k hk).mv hk (fun a _ _ => wd a (by omega) (by omega) (by omega) (by omega) (by omega)) (fun j _ => by rw [e79]) (wd 81 (by decide) (by decide) (by decide) (by decide) (by omega))) (by rw [wn 1 (by decide) (by decide)]; exact q1) w6 (by rw [wn 0 (by decide) (by decide), q9, f1, w11]) (by rw [wn 0 (by decide) (by decide)]; exact q10) w23 (fun a _ _ h1 _ _ h4 => wd a h1 h4 (by omega) (by omega) (by omega))
