/-! ===== text: the class reads a season, a child, a line ===== -/
theorem RW.se1 {d : Dt} {r : Rw} {s i : Nat} {v : Int32} (hR : RW d 18 r) (hn : nk r ≤ 5) (hs : s < 4) (hi : i < 3) : RW (pI d (18 + 6 + s) i v) 18 (upd r (3 * s + i) v) := by
  refine hR.sea hn hs (fun a ha => pI_ne ha) (fun j hj => upd_n (by omega)) ?_
  obtain ⟨q0, q1, q2⟩ := hR.2.1 s hs
  rcases (show i = 0 ∨ i = 1 ∨ i = 2 by omega) with rfl | rfl | rfl
  · exact ⟨by rw [ps, show 3 * s = 3 * s + 0 from rfl, upd_s], by rw [pk (by decide), upd_n (by omega)]; exact q1, by rw [pk (by decide), upd_n (by omega)]; exact q2⟩
  · exact ⟨by rw [pk (by decide), upd_n (by omega)]; exact q0, by rw [ps, upd_s], by rw [pk (by decide), upd_n (by omega)]; exact q2⟩
  · exact ⟨by rw [pk (by decide), upd_n (by omega)]; exact q0, by rw [pk (by decide), upd_n (by omega)]; exact q1, by rw [ps, upd_s]⟩
theorem RW.fx {d D : Dt} {r : Rw} (h : RW d 18 r) (f : Fx d D) (hn : nk r ≤ 5) : RW D 18 r := h.mv (fun a _ _ => f.1 a (by omega) (by omega)) hn
section XRD
variable {b : Nat → Nat} {n : Nat}
theorem x_step {d : Dt} {s i lo hi q m : Nat} {r : Rw} (hX : TpX b n d) (h5 : d.1 1 5 = nI q) (hq : q ≤ n) (hR : RW d 18 r) (hn5 : nk r ≤ 5) (hs : s < 4) (hi3 : i < 3) (ht : d.1 33 1 = nI m) (h3 : d.1 33 2 = 0) (hlo : lo < 100) (hhi : hi < 100) : ∃ D, f_X3_readNumber L0 d 33 (nI lo) (nI hi) = some (if cN b n lo hi q = 0 then 1 else 0, D) ∧ Fy d D ∧ (¬ cN b n lo hi q = 0 → XF D (cN b n lo hi q) (tS b n q)) ∧ (cN b n lo hi q = 0 → ∃ E, pI D (18 + 6 + s) i (D.1 1 4) = E ∧ Fy d E ∧ RW E 18 (upd r (3 * s + i) (nI (tV b n q))) ∧ E.1 33 1 = nI m ∧ E.1 33 2 = 0 ∧ E.1 1 5 = nI (tE b n q)) := by
  obtain ⟨D, a1, a2, a3, a4, a5⟩ := x_rn (lo := lo) (hi := hi) hX h5 hq hlo hhi
  refine ⟨D, a1, Fy.fx a2, a5, fun c0 => ?_⟩
  have hv : D.1 1 4 = nI (tV b n q) := a3.2.2.2 (cN_0 c0).1
  refine ⟨_, rfl, (Fy.fx a2).tr (Fy.pi (by omega)), by rw [hv]; exact (hR.fx a2 hn5).se1 hn5 hs hi3, by rw [pI_ne (by omega), a2.2.2]; exact ht, by rw [pI_ne (by omega), a4 c0]; exact h3, by rw [pI_ne (by omega)]; exact a3.2.2.1⟩
theorem x_seas {d : Dt} {s M p : Nat} {r : Rw} (hX : TpX b n d) (hC : CT b n d p) (hp : p ≤ n) (hR : RW d 18 r) (hn5 : nk r ≤ 5) (hs : s < 4) (hM : M < 256) (ht : d.1 33 1 = nI (M / 16)) (h3 : d.1 33 2 = 0) : ∃ z D, (Option.bind (f_X3_readSeason L0 d 33 (18 + 6 + s) (nI s)) fun z16 => if z16.1 = 0 then (some ((0 : Int32), z16.2)) else (Option.bind (f_X3_readStop L0 z16.2 33) fun z18 => if z18.1 = 0 then (some ((0 : Int32), z18.2)) else (some ((1 : Int32), z18.2)))) = some (z, D) ∧ Fy d D ∧ ((phS b n s M p).1 = 0 → z = 1 ∧ RW D 18 (seR r s (tV b n (ep1 b n p)) (tV b n (ep2 b n p)) (tV b n (ep3 b n p))) ∧ D.1 33 1 = nI ((M ||| 2 ^ (s + 4)) / 16) ∧ D.1 33 2 = 0 ∧ D.1 1 5 = nI (tE b n (ep4 b n p))) ∧ (¬ (phS b n s M p).1 = 0 → z = 0 ∧ XF D (phS b n s M p).1 (phS b n s M p).2) := by
  have hE := ep_le (b := b) hp
  have h5 : d.1 1 5 = nI (ep1 b n p) := hC.2.2.1
  unfold f_X3_readSeason
  rw [Rd_cls, if_pos rfl, ht]
  by_cases hb : M.testBit (s + 4) = true
  · have hφ : phS b n s M p = (4, tS b n p) := by unfold phS; rw [if_pos hb, nx_c (c := 4) (by omega), nx_c (c := 4) (by omega), nx_c (c := 4) (by omega), nx_c (c := 4) (by omega)]
    obtain ⟨D, e, F, -, g⟩ := x_fail (c := 4) hC.2.1 (by omega)
    rw [if_neg (fun q => by rw [(bS M hM s hs).1.mp q] at hb; exact absurd hb (by decide)), show f_X3_fail L0 d 33 (4 : Int32) = _ from e, Option.bind_some, if_pos (Or.inl rfl), Option.bind_some, if_pos rfl, hφ]
    exact ⟨0, D, rfl, Fy.fx F, fun q => absurd q (show ¬ (4 : Nat) = 0 by decide), fun _ => ⟨rfl, g⟩⟩
  have hb0 : M.testBit (s + 4) = false := by cases h : M.testBit (s + 4) with
    | true => exact absurd h hb
    | false => rfl
  have hφ : phS b n s M p = nx (nx (nx (cN b n 1 9 (ep1 b n p), tS b n (ep1 b n p)) (cN b n 0 9 (ep2 b n p)) (tS b n (ep2 b n p))) (cN b n 0 99 (ep3 b n p)) (tS b n (ep3 b n p))) (cS b n (ep4 b n p)) (tS b n (ep4 b n p)) := by unfold phS; rw [if_neg hb, nx_z]
  rw [if_pos ((bS M hM s hs).1.mpr hb0), (bS M hM s hs).2.1, hφ, Rd_t]
  generalize (M ||| 2 ^ (s + 4)) / 16 = m
  have F0 : Fy d (pI d 33 1 (nI m)) := Fy.pi (by omega)
  have R0 : RW (pI d 33 1 (nI m)) 18 r := hR.mv (fun a _ _ => pI_ne (by omega)) hn5
  obtain ⟨D1, a1, a2, a3, a4⟩ := x_step (lo := 1) (hi := 9) (s := s) (i := 0) (m := m) (hX.mvy F0) (show (pI d 33 1 (nI m)).1 1 5 = nI (ep1 b n p) by rw [pI_ne (by decide)]; exact h5) hE.1 R0 hn5 hs (by omega) ps (by rw [pk (by decide)]; exact h3) (by omega) (by omega)
  rw [show f_X3_readNumber L0 (pI d 33 1 (nI m)) 33 (1 : Int32) (9 : Int32) = _ from a1, Option.bind_some]
  have G1 := F0.tr a2
  by_cases c1 : cN b n 1 9 (ep1 b n p) = 0
  · obtain ⟨E1, b1, b2, b3, b4, b5, b6⟩ := a4 c1
    have K1 := F0.tr b2
    rw [if_pos c1, if_neg one_ne, Option.bind_some, T_cls, if_pos rfl, W_scl isW18 hs, if_pos rfl, b1, c1, nx_z]
    have n1 : nk (upd r (3 * s + 0) (nI (tV b n (ep1 b n p)))) ≤ 5 := by rw [nk_upd (by omega)]; exact hn5
    obtain ⟨D2, a1', a2', a3', a4'⟩ := x_step (lo := 0) (hi := 9) (s := s) (i := 1) (m := m) (hX.mvy K1) b6 hE.2.1 b3 n1 hs (by omega) b4 b5 (by omega) (by omega)
    rw [show f_X3_readNumber L0 E1 33 (0 : Int32) (9 : Int32) = _ from a1', Option.bind_some]
    by_cases c2 : cN b n 0 9 (ep2 b n p) = 0
    · have c2' : cN b n 0 9 (tE b n (ep1 b n p)) = 0 := c2
      obtain ⟨E2, b1', b2', b3', b4', b5', b6'⟩ := a4' c2
      have K2 := K1.tr b2'
      rw [if_pos c2', if_neg one_ne, b1', c2, nx_z]
      have n2 : nk (upd (upd r (3 * s + 0) (nI (tV b n (ep1 b n p)))) (3 * s + 1) (nI (tV b n (ep2 b n p)))) ≤ 5 := by rw [nk_upd (by omega)]; exact n1
      obtain ⟨D3, a1'', a2'', a3'', a4''⟩ := x_step (lo := 0) (hi := 99) (s := s) (i := 2) (m := m) (hX.mvy K2) b6' hE.2.2.1 b3' n2 hs (by omega) b4' b5' (by omega) (by omega)
      rw [show f_X3_readNumber L0 E2 33 (0 : Int32) (99 : Int32) = _ from a1'', Option.bind_some]
      by_cases c3 : cN b n 0 99 (ep3 b n p) = 0
      · have c3' : cN b n 0 99 (tE b n (tE b n (ep1 b n p))) = 0 := c3
        obtain ⟨E3, b1'', b2'', b3'', b4'', b5'', b6''⟩ := a4'' c3
        have K3 := K2.tr b2''
        rw [if_pos c3', if_neg one_ne, b1'', c3, nx_z, Option.bind_some, if_neg one_ne]
        have n3 : nk (seR r s (tV b n (ep1 b n p)) (tV b n (ep2 b n p)) (tV b n (ep3 b n p))) ≤ 5 := by unfold seR; rw [nk_upd (by omega)]; exact n2
        obtain ⟨D4, s1, s2, s3, s4, s5⟩ := x_stop (hX.mvy K3) b6'' hE.2.2.2.1
        rw [s1, Option.bind_some]
        have K4 := K3.tr (Fy.fx s2)
        by_cases c4 : cS b n (ep4 b n p) = 0
        · have c4' : cS b n (tE b n (tE b n (tE b n (ep1 b n p)))) = 0 := c4
          rw [if_pos c4', if_neg one_ne]
          exact ⟨1, D4, rfl, K4, fun _ => ⟨rfl, RW.fx b3'' s2 n3, by rw [s2.2.2]; exact b4'', by rw [s4 c4']; exact b5'', s3.2.2.1⟩, fun q => absurd c4 q⟩
        · have c4' : ¬ cS b n (tE b n (tE b n (tE b n (ep1 b n p)))) = 0 := c4
          rw [if_neg c4', if_pos rfl]
          exact ⟨0, D4, rfl, K4, fun q => absurd q c4, fun _ => ⟨rfl, s5 c4'⟩⟩
      · have c3' : ¬ cN b n 0 99 (tE b n (tE b n (ep1 b n p))) = 0 := c3
        rw [if_neg c3', if_pos rfl, Option.bind_some, if_pos rfl, nx_c c3]
        exact ⟨0, D3, rfl, K2.tr a2'', fun q => absurd q c3, fun _ => ⟨rfl, a3'' c3'⟩⟩
    · have c2' : ¬ cN b n 0 9 (tE b n (ep1 b n p)) = 0 := c2
      rw [if_neg c2', if_pos rfl, Option.bind_some, if_pos rfl, nx_c c2, nx_c c2]
      exact ⟨0, D2, rfl, K1.tr a2', fun q => absurd q c2, fun _ => ⟨rfl, a3' c2'⟩⟩
  · rw [if_neg c1, if_pos rfl, Option.bind_some, if_pos rfl, nx_c c1, nx_c c1, nx_c c1]
    exact ⟨0, D1, rfl, G1, fun q => absurd q c1, fun _ => ⟨rfl, a3 c1⟩⟩
end XRD
