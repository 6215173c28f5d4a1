/-! ===== text: the reference reads a line, and all ===== -/
section MAL
variable {b : Nat → Nat} {n : Nat}
theorem m_J130 {d : Dt} {p : Nat} {φ : Nat × Nat} (hX : TpM b n d) (hQ : Mst b n d φ p) (hp : p ≤ n) : ∃ D, f_X9_readLine_J130 L0 d 78 = some D ∧ Fk d D ∧ Mst b n D (nx φ (cS b n p) (tS b n p)) (tE b n p) := by
  have hk := tK_le (b := b) (n := n) (p := p)
  unfold f_X9_readLine_J130
  rw [M_cls, if_pos rfl]
  by_cases h0 : φ.1 = 0
  · have hT := hQ.1 h0
    rw [nx_0 h0]
    by_cases h1 : tK b n p = 1
    · have hc : cS b n p = 1 := by unfold cS; rw [if_pos h1]
      have hF := hT.1 h1
      rw [if_neg hF.ne, m_readsf hF, Option.bind_some, hc]
      exact ⟨d, rfl, Fk.rf, fun q => absurd q (show ¬ (1 : Nat) = 0 by decide), fun _ => hF⟩
    · obtain ⟨h11, h9, h8, h7, -⟩ := hT.2 h1
      rw [if_pos h11, h9]
      by_cases h4 : tK b n p = 4
      · have hc : cS b n p = 0 := by unfold cS; rw [if_neg h1, if_pos h4]
        obtain ⟨D, r1, r2, r3⟩ := m_reads hX h11 h7 (tE_le (b := b) hp).2
        rw [if_pos (show nI (tK b n p - 1) = 3 by rw [h4]; rfl), m_needs1, Option.bind_some, r1, Option.bind_some, hc]
        exact ⟨D, rfl, r2, fun _ => r3, fun q => absurd rfl q⟩
      · have hc : cS b n p = 2 := by unfold cS; rw [if_neg h1, if_neg h4]
        have hF : MF (pI (pI d 78 11 (nI 2)) 78 12 (d.1 78 8)) 2 (tS b n p) := MF.mk0 h8 (by omega) (by omega)
        rw [if_neg (show ¬ nI (tK b n p - 1) = 3 from fun q => by have := nI_inj (b := 3) (by omega) (by omega) q; omega), show f_X9_needs L0 d 78 (0 : Int32) (2 : Int32) = _ from m_needs0 (c := nI 2) h11, Option.bind_some, m_readsf hF, Option.bind_some, hc]
        exact ⟨_, rfl, (Fk.pi (by decide)).tr (Fk.pi (by decide)), fun q => absurd q (show ¬ (2 : Nat) = 0 by decide), fun _ => hF⟩
  · have hF := hQ.2 h0
    rw [nx_f h0, if_neg hF.ne, m_readsf hF, Option.bind_some]
    exact ⟨d, rfl, Fk.rf, fun q => absurd q h0, fun _ => hF⟩
theorem m_J82f {d : Dt} {v1 y0 : Int32} {c q : Nat} (hF : MF d c q) : f_X9_readLine_J82 L0 d 78 v1 y0 78 = some d := by
  unfold f_X9_readLine_J82
  obtain ⟨h1, -, h3, h4⟩ := id hF
  rw [M_cls, if_pos rfl, m_needsf hF.ne, Option.bind_some, if_pos rfl, m_readsf hF, Option.bind_some, h1, if_neg (nI_nle (by omega) (by omega))]
theorem m_J82s {d : Dt} {p s M : Nat} {r : Rw} (hX : TpM b n d) (h11 : d.1 78 11 = 0) (h7 : d.1 78 7 = nI p) (hp : p ≤ n) (hs : s < 4) (hM : M < 256) (ht : d.1 78 4 = nI M) (hr : Dr d r) : ∃ D, f_X9_readLine_J82 L0 d 78 (nI (s + 4)) (1 : Int32) 78 = some D ∧ Fm d D ∧ Mst b n D (nx (nx (nx (cN b n 1 9 p, tS b n p) (cN b n 0 9 (tE b n p)) (tS b n (tE b n p))) (cN b n 0 99 (tE b n (tE b n p))) (tS b n (tE b n (tE b n p)))) (cS b n (tE b n (tE b n (tE b n p)))) (tS b n (tE b n (tE b n (tE b n p))))) (tE b n (tE b n (tE b n (tE b n p)))) ∧ ((nx (nx (nx (cN b n 1 9 p, tS b n p) (cN b n 0 9 (tE b n p)) (tS b n (tE b n p))) (cN b n 0 99 (tE b n (tE b n p))) (tS b n (tE b n (tE b n p)))) (cS b n (tE b n (tE b n (tE b n p)))) (tS b n (tE b n (tE b n (tE b n p))))).1 = 0 → Dr D (seR r s (tV b n p) (tV b n (tE b n p)) (tV b n (tE b n (tE b n p)))) ∧ D.1 78 4 = nI (M ||| 2 ^ (s + 4))) := by
  have hp1 := (tE_le (b := b) hp).2
  have hp2 := (tE_le (b := b) hp1).2
  have hp3 := (tE_le (b := b) hp2).2
  obtain ⟨D1, r1, r2, r3⟩ := m_reads hX h11 h7 hp
  unfold f_X9_readLine_J82
  rw [M_cls, if_pos rfl, m_needs1, Option.bind_some, if_pos rfl, r1, Option.bind_some]
  by_cases h1 : tK b n p = 1
  · have hF := r3.1 h1
    have hc : cN b n 1 9 p = 1 := by unfold cN; rw [if_pos h1]
    rw [hF.1, if_neg (nI_nle (by omega) (by omega)), hc, nx_c (c := 1) (by omega), nx_c (c := 1) (by omega), nx_c (c := 1) (by omega)]
    exact ⟨D1, rfl, Fm.fk r2, ⟨fun q => absurd q (show ¬ (1 : Nat) = 0 by decide), fun _ => hF⟩, fun q => absurd q (show ¬ (1 : Nat) = 0 by decide)⟩
  · have h11' := (r3.2 h1).1
    rw [if_pos (show D1.1 78 11 ≤ 0 by rw [h11']; decide), if_pos (show (4 : Int32) ≤ nI (s + 4) from nI_le (a := 4) (by omega) (by omega)), r2.2 4 (by decide), ht, bO M hM (s + 4) (by omega), show nI (s + 4) - (4 : Int32) = nI s from (nI_sub (b := 4) (by omega)).trans (by rw [Nat.add_sub_cancel])]
    have F2 : Fm d (pI D1 78 4 (nI (M ||| 2 ^ (s + 4)))) := (Fm.fk r2).tr Fm.p4
    have Q2 : Mst b n (pI D1 78 4 (nI (M ||| 2 ^ (s + 4)))) (0, 0) p := Mst.mv (d := D1) ⟨fun _ => r3, fun q => absurd rfl q⟩ (fun k hk => pk hk)
    obtain ⟨D3, s1, s2, s3, s4, s5⟩ := m_seas (r := r) (hX.mvm F2) Q2 hp hs (fun j hj hj9 => by rw [pI_ne (by decide), r2.1 82 (by decide)]; exact hr j hj hj9)
    obtain ⟨D4, t1, t2, t3⟩ := m_J130 (hX.mvm (F2.tr s2)) s4 hp3
    rw [s1, Option.bind_some, t1]
    refine ⟨D4, rfl, (F2.tr s2).tr (Fm.fk t2), t3, fun h0 => ⟨fun j hj hj9 => by rw [t2.1 82 (by decide)]; exact s5 (nx_1 h0).1 j hj hj9, by rw [t2.2 4 (by decide), s3, ps]⟩⟩
theorem m_J82c {d : Dt} {p k M : Nat} {r : Rw} (hX : TpM b n d) (h11 : d.1 78 11 = 0) (h7 : d.1 78 7 = nI p) (hp : p ≤ n) (hk : k < 4) (hM : M < 256) (ht : d.1 78 4 = nI M) (hS : SI r) (h5 : nk r < 5) (hr : Dr d r) : ∃ D, f_X9_readLine_J82 L0 d 78 (nI k) (1 : Int32) 78 = some D ∧ Fm d D ∧ Mst b n D (nx (nx (cC b n p, tS b n p) (cN b n 1 99 (tE b n p)) (tS b n (tE b n p))) (cS b n (tE b n (tE b n p))) (tS b n (tE b n (tE b n p)))) (tE b n (tE b n (tE b n p))) ∧ ((nx (nx (cC b n p, tS b n p) (cN b n 1 99 (tE b n p)) (tS b n (tE b n p))) (cS b n (tE b n (tE b n p))) (tS b n (tE b n (tE b n p)))).1 = 0 → Dr D (chR r k (tV b n p) (tV b n (tE b n p))) ∧ D.1 78 4 = nI (M ||| 2 ^ k)) := by
  have hp1 := (tE_le (b := b) hp).2
  have hp2 := (tE_le (b := b) hp1).2
  obtain ⟨D1, r1, r2, r3⟩ := m_reads hX h11 h7 hp
  unfold f_X9_readLine_J82
  rw [M_cls, if_pos rfl, m_needs1, Option.bind_some, if_pos rfl, r1, Option.bind_some]
  by_cases h1 : tK b n p = 1
  · have hF := r3.1 h1
    have hc : cC b n p = 1 := by
      have hc : cN b n 0 9 p = 1 := by unfold cN; rw [if_pos h1]
      unfold cC; rw [hc]; rfl
    rw [hF.1, if_neg (nI_nle (by omega) (by omega)), hc, nx_c (c := 1) (by omega), nx_c (c := 1) (by omega)]
    exact ⟨D1, rfl, Fm.fk r2, ⟨fun q => absurd q (show ¬ (1 : Nat) = 0 by decide), fun _ => hF⟩, fun q => absurd q (show ¬ (1 : Nat) = 0 by decide)⟩
  · have h11' := (r3.2 h1).1
    rw [if_pos (show D1.1 78 11 ≤ 0 by rw [h11']; decide), if_neg (show ¬ (4 : Int32) ≤ nI k from nI_ge (b := 4) hk (by omega)), r2.2 4 (by decide), ht, bO M hM k (by omega)]
    have F2 : Fm d (pI D1 78 4 (nI (M ||| 2 ^ k))) := (Fm.fk r2).tr Fm.p4
    have Q2 : Mst b n (pI D1 78 4 (nI (M ||| 2 ^ k))) (0, 0) p := Mst.mv (d := D1) ⟨fun _ => r3, fun q => absurd rfl q⟩ (fun k hk => pk hk)
    obtain ⟨D3, s1, s2, s3, s4, s5⟩ := m_chil (k := k) (r := r) (hX.mvm F2) (Q2.1 rfl) hp hS h5 (fun j hj hj9 => by rw [pI_ne (by decide), r2.1 82 (by decide)]; exact hr j hj hj9)
    obtain ⟨D4, t1, t2, t3⟩ := m_J130 (hX.mvm (F2.tr s2)) s4 hp2
    rw [s1, Option.bind_some, t1]
    refine ⟨D4, rfl, (F2.tr s2).tr (Fm.fk t2), t3, fun h0 => ⟨fun j hj hj9 => by rw [t2.1 82 (by decide)]; exact s5 (nx_1 h0).1 j hj hj9, by rw [t2.2 4 (by decide), s3, ps]⟩⟩
theorem m_line {d : Dt} {p M : Nat} {r : Rw} (hX : TpM b n d) (hT : MT b n d p) (h1 : ¬ tK b n p = 1) (hp : p ≤ n) (hM : M < 256) (ht : d.1 78 4 = nI M) (hS : SI r) (hr : Dr d r) : ∃ D, f_X9_readLine L0 d 78 = some D ∧ Fm d D ∧ Mst b n D (phL b n r M p) (poL b n p) ∧ ((phL b n r M p).1 = 0 → Dr D (roL b n r p) ∧ D.1 78 4 = nI (toL b n M p)) := by
  have hk := tK_le (b := b) (n := n) (p := p)
  have hli := li_le (b := b) (n := n) (p := p)
  have hp1 := (tE_le (b := b) hp).2
  obtain ⟨h11, h9, h8, h7, -⟩ := hT.2 h1
  have hJ : f_X9_readLine L0 d 78 = f_X9_readLine_J17 L0 d 78 (lv (li b n p)) := by
    unfold f_X9_readLine
    rw [M_cls, if_pos rfl, h9]
    by_cases h2 : tK b n p = 2
    · rw [if_pos (show nI (tK b n p - 1) = 1 by rw [h2]; rfl), m_name hX hp h2 hT, Option.bind_some]
    · have h88 : li b n p = 8 := by
        by_cases q : li b n p < 8
        · exact absurd (li_k q) h2
        · omega
      rw [if_neg (show ¬ nI (tK b n p - 1) = 1 from fun q => by have := nI_inj (b := 1) (by omega) (by omega) q; omega), h88]
      rfl
  have e37 : d.1 82 37 = nI (nk r) := (hr 37 (by omega) (by omega)).trans hS.1.1.1
  have o37 : okA L0 82 1 (37 : Int32) = true := Mo_draft (j := 37) (by omega)
  rw [hJ]
  unfold f_X9_readLine_J17
  by_cases c8 : 8 ≤ li b n p
  · have hφ : phL b n r M p = (2, tS b n p) := by unfold phL; rw [if_neg (by omega), if_neg (by omega), if_neg h1]
    have hl : lv (li b n p) = -4 := by unfold lv; rw [if_neg (by omega)]
    have hF : MF (pI (pI d 78 11 (nI 2)) 78 12 (d.1 78 8)) 2 (tS b n p) := MF.mk0 h8 (by omega) (by omega)
    have F : Fm d (pI (pI d 78 11 (nI 2)) 78 12 (d.1 78 8)) := (Fm.fk (Fk.pi (by decide))).tr (Fm.fk (Fk.pi (by decide)))
    have q37 : (pI (pI d 78 11 (nI 2)) 78 12 (d.1 78 8)).1 82 37 = nI (nk r) := by rw [pI_ne (by decide), pI_ne (by decide)]; exact e37
    rw [hl, if_pos rfl, hφ]
    unfold f_X9_readLine_J30 f_X9_readLine_J51
    rw [M_cls, if_pos rfl, show f_X9_needs L0 d 78 (0 : Int32) (2 : Int32) = _ from m_needs0 (c := nI 2) h11, Option.bind_some, if_neg (show ¬ (4 : Int32) ≤ -4 by decide), M_draft, Option.bind_some, o37, if_pos rfl]
    generalize pI (pI d 78 11 (nI 2)) 78 12 (d.1 78 8) = D at *
    have hJ56 : ∀ y, f_X9_readLine_J56 L0 D 78 (-4) y 78 = some D := fun y => by
      unfold f_X9_readLine_J56 f_X9_readLine_J77
      rw [M_cls, if_pos rfl, m_needsf hF.ne, Option.bind_some, if_pos (show (-4 : Int32) < 4 by decide), m_J82f hF]
    rw [hJ56, hJ56, ite_self]
    exact ⟨D, rfl, F, ⟨fun q => absurd q (show ¬ (2 : Nat) = 0 by decide), fun _ => hF⟩, fun q => absurd q (show ¬ (2 : Nat) = 0 by decide)⟩
  have hl : lv (li b n p) = nI ((li b n p + 4) % 8) := by unfold lv; rw [if_pos (by omega)]
  rw [hl, if_neg (nI_ne4 (by omega))]
  unfold f_X9_readLine_J30 f_X9_readLine_J51
  rw [M_cls, if_pos rfl, m_needs1, Option.bind_some, M_draft, Option.bind_some, o37, if_pos rfl, t37, e37]
  unfold f_X9_readLine_J56 f_X9_readLine_J77
  rw [M_cls, if_pos rfl, if_pos rfl, m_needs1, Option.bind_some]
  unfold toL roL poL
  by_cases c4 : li b n p < 4
  · rw [show (li b n p + 4) % 8 = li b n p + 4 by omega, if_pos (show (4 : Int32) ≤ nI (li b n p + 4) from nI_le (a := 4) (by omega) (by omega)), if_neg (show ¬ nI (li b n p + 4) < 4 from nI_nlt (b := 4) (by omega) (by omega)), if_pos rfl, ht, if_pos c4, if_pos c4]
    have hφ0 : phL b n r M p = phS b n (li b n p) M p := by unfold phL; rw [if_pos c4]
    by_cases hb : M.testBit (li b n p + 4) = true
    · have hφ : phS b n (li b n p) M p = (4, tS b n p) := by unfold phS; rw [if_pos hb, nx_c (c := 4) (by omega), nx_c (c := 4) (by omega), nx_c (c := 4) (by omega), nx_c (c := 4) (by omega)]
      have hF : MF (pI (pI d 78 11 (nI 4)) 78 12 (d.1 78 8)) 4 (tS b n p) := MF.mk0 h8 (by omega) (by omega)
      rw [if_neg (fun q => by rw [(bS M hM _ c4).2.2.mp q] at hb; exact absurd hb (by decide)), hφ0, hφ]
      unfold f_X9_readLine_J82
      rw [M_cls, if_pos rfl, show f_X9_needs L0 d 78 (0 : Int32) (4 : Int32) = _ from m_needs0 (c := nI 4) h11, Option.bind_some, if_pos rfl, m_readsf hF, Option.bind_some, hF.1, if_neg (nI_nle (by omega) (by omega))]
      exact ⟨_, rfl, (Fm.fk (Fk.pi (by decide))).tr (Fm.fk (Fk.pi (by decide))), ⟨fun q => absurd q (show ¬ (4 : Nat) = 0 by decide), fun _ => hF⟩, fun q => absurd q (show ¬ (4 : Nat) = 0 by decide)⟩
    · have hb0 : M.testBit (li b n p + 4) = false := by cases h : M.testBit (li b n p + 4) with
        | true => exact absurd h hb
        | false => rfl
      have hφ : phS b n (li b n p) M p = nx (nx (nx (cN b n 1 9 (ep1 b n p), tS b n (ep1 b n p)) (cN b n 0 9 (ep2 b n p)) (tS b n (ep2 b n p))) (cN b n 0 99 (ep3 b n p)) (tS b n (ep3 b n p))) (cS b n (ep4 b n p)) (tS b n (ep4 b n p)) := by unfold phS; rw [if_neg hb, nx_z]
      rw [if_pos ((bS M hM _ c4).2.2.mpr hb0), hφ0, hφ]
      exact m_J82s hX h11 h7 hp1 c4 hM ht hr
  · rw [show (li b n p + 4) % 8 = li b n p - 4 by omega, if_neg (show ¬ (4 : Int32) ≤ nI (li b n p - 4) from nI_ge (b := 4) (by omega) (by omega)), if_neg c4, if_neg c4]
    have hφ0 : phL b n r M p = phC b n r p := by unfold phL; rw [if_neg c4, if_pos (by omega)]
    by_cases hf : 5 ≤ nk r
    · have hφ : phC b n r p = (5, tS b n p) := by unfold phC; rw [if_pos hf, nx_c (c := 5) (by omega), nx_c (c := 5) (by omega), nx_c (c := 5) (by omega)]
      have hF : MF (pI (pI d 78 11 (nI 5)) 78 12 (d.1 78 8)) 5 (tS b n p) := MF.mk0 h8 (by omega) (by omega)
      rw [if_pos (show (5 : Int32) ≤ nI (nk r) from nI_le (a := 5) hf (by have := hS.1.1.2; omega)), show f_X9_needs L0 d 78 (0 : Int32) (5 : Int32) = _ from m_needs0 (c := nI 5) h11, Option.bind_some, if_pos (show nI (li b n p - 4) < 4 from nI_lt (b := 4) (by omega) (by omega)), m_J82f hF, hφ0, hφ]
      exact ⟨_, rfl, (Fm.fk (Fk.pi (by decide))).tr (Fm.fk (Fk.pi (by decide))), ⟨fun q => absurd q (show ¬ (5 : Nat) = 0 by decide), fun _ => hF⟩, fun q => absurd q (show ¬ (5 : Nat) = 0 by decide)⟩
    · have hφ : phC b n r p = nx (nx (cC b n (ep1 b n p), tS b n (ep1 b n p)) (cN b n 1 99 (ep2 b n p)) (tS b n (ep2 b n p))) (cS b n (ep3 b n p)) (tS b n (ep3 b n p)) := by unfold phC; rw [if_neg hf, nx_z]
      rw [if_neg (show ¬ (5 : Int32) ≤ nI (nk r) from nI_ge (b := 5) (by omega) (by omega)), if_pos (show nI (li b n p - 4) < 4 from nI_lt (b := 4) (by omega) (by omega)), hφ0, hφ]
      exact m_J82c hX h11 h7 hp1 (by omega) hM ht hS (by omega) hr
end MAL
