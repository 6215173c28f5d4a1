/-! ===== text: the class reads a child, a line ===== -/
theorem x_add {d : Dt} {r : Rw} {k : Nat} (hk : k < 4) (hR : RW d 18 r) (hG : Good r) (hf : nk r < 5) : ∃ D, f_X7_add L0 d 18 (nI k) = some D ∧ RW D 18 (boR r (nI k)) ∧ Bw 18 d D := by
  have e2 : d.1 18 2 = nI (nk r) := hR.sz hG
  have hx : f_X7_add L0 d 18 (nI k) = some (pI (pI (pI (pI (pI (pI d (18 + 10 + nk r) 0 (nI k)) (18 + 10 + nk r) 1 0) (18 + 10 + nk r) 2 0) (18 + 10 + nk r) 3 0) (18 + 10 + nk r) 4 0) 18 2 (nI (nk r + 1))) := by
    unfold f_X7_add f_X1_renew
    rw [W_cls isW18, if_pos rfl, e2, if_neg (fun q => by have := (nI_leI (a := 5) (b := nk r) (by omega) (by omega)).mp q; omega), W_ch isW18, Option.bind_some, W_rac isW18 hf, Option.bind_some, W_ccl isW18 hf, if_pos rfl, if_pos rfl, Option.bind_some, pI_ne (by omega), pI_ne (by omega), pI_ne (by omega), pI_ne (by omega), pI_ne (by omega), e2, nI_1]
  generalize hd1 : pI (pI (pI (pI (pI (pI d (18 + 10 + nk r) 0 (nI k)) (18 + 10 + nk r) 1 0) (18 + 10 + nk r) 2 0) (18 + 10 + nk r) 3 0) (18 + 10 + nk r) 4 0) 18 2 (nI (nk r + 1)) = d1 at hx
  have xn : ∀ a, a ≠ 18 → a ≠ 18 + 10 + nk r → d1.1 a = d.1 a := fun a x y => by rw [← hd1, pI_ne x, pI_ne y, pI_ne y, pI_ne y, pI_ne y, pI_ne y]
  have x3 : d1.1 18 = upd (d.1 18) 2 (nI (nk r + 1)) := by rw [← hd1, pI_self, pI_ne (by omega), pI_ne (by omega), pI_ne (by omega), pI_ne (by omega), pI_ne (by omega)]
  have y0 : d1.1 (18 + 10 + nk r) 0 = nI k := by rw [← hd1, pI_ne (by omega), pk (by decide), pk (by decide), pk (by decide), pk (by decide), ps]
  have y1 : d1.1 (18 + 10 + nk r) 1 = 0 := by rw [← hd1, pI_ne (by omega), pk (by decide), pk (by decide), pk (by decide), ps]
  have y2 : d1.1 (18 + 10 + nk r) 2 = 0 := by rw [← hd1, pI_ne (by omega), pk (by decide), pk (by decide), ps]
  have y3 : d1.1 (18 + 10 + nk r) 3 = 0 := by rw [← hd1, pI_ne (by omega), pk (by decide), ps]
  have y4 : d1.1 (18 + 10 + nk r) 4 = 0 := by rw [← hd1, pI_ne (by omega), ps]
  have z2 : d1.2 = d.2 := by rw [← hd1]; rfl
  refine ⟨d1, hx, ?_, fun a ha => xn a (by omega) (by omega), z2⟩
  have hns := hG.2.2.2.2.1.2
  obtain ⟨⟨r1, r2, r3, r4, r5⟩, r6, r7, r8⟩ := hR
  refine ⟨⟨by rw [x3, upd_s, boR_37], by rw [x3, upd_n (by decide), boR_ne (by omega) (by omega)]; exact r2, by rw [x3, upd_n (by decide), boR_ne (by omega) (by omega)]; exact r3, by rw [x3, upd_n (by decide), boR_ne (by omega) (by omega)]; exact r4, by rw [x3, upd_n (by decide), boR_ne (by omega) (by omega)]; exact r5⟩, fun s hs => by rw [xn _ (by omega) (by omega), boR_ne (by omega) (by omega), boR_ne (by omega) (by omega), boR_ne (by omega) (by omega)]; exact r6 s hs, fun c hc => ?_, fun i hi => ?_⟩
  · rw [boR_nk hf] at hc
    by_cases e : c = nk r
    · rw [e]
      exact ⟨by rw [y0, boR_0 hf], by rw [y2, boR_2 hf (by omega) (by omega)], by rw [y3, boR_2 hf (by omega) (by omega)], by rw [y4, boR_2 hf (by omega) (by omega)], fun z => absurd (boR_2 hf (by omega) (by omega)) z, ⟨0, by omega, y1⟩⟩
    · have := r7 c (by omega)
      unfold KR at *
      rw [xn _ (by omega) (by omega), boR_ne (by omega) (by omega), boR_ne (by omega) (by omega), boR_ne (by omega) (by omega), boR_ne (by omega) (by omega), boR_ne (by omega) (by omega)]
      exact this
  · rw [boR_ns hf] at hi
    rw [xn _ (by omega) (by omega), xn _ (by omega) (by omega), xn _ (by omega) (by omega), boR_ne (by omega) (by omega), boR_ne (by omega) (by omega), boR_ne (by omega) (by omega)]
    exact r8 i hi
section XCH
variable {b : Nat → Nat} {n : Nat}
theorem x_J56 {d : Dt} {k v q m : Nat} {r : Rw} (hX : TpX b n d) (h5 : d.1 1 5 = nI q) (hq : q ≤ n) (hR : RW d 18 r) (hG : Good r) (hf : nk r < 5) (hk : k < 4) (hv : v < 4 ∨ v = 9) (ht : d.1 33 1 = nI m) (h3 : d.1 33 2 = 0) : ∃ D, f_X3_readChild_J53 L0 d 33 18 (nI k) (nI v) = some (if cN b n 1 99 q = 0 then 1 else 0, D) ∧ Fy d D ∧ (¬ cN b n 1 99 q = 0 → XF D (cN b n 1 99 q) (tS b n q)) ∧ (cN b n 1 99 q = 0 → RW D 18 (chR r k v (tV b n q)) ∧ D.1 33 1 = nI m ∧ D.1 33 2 = 0 ∧ D.1 1 5 = nI (tE b n q)) := by
  obtain ⟨D, a1, a2, a3, a4, a5⟩ := x_rn (lo := 1) (hi := 99) hX h5 hq (by omega) (by omega)
  unfold f_X3_readChild_J53
  rw [Rd_cls, if_pos rfl, show f_X3_readNumber L0 d 33 (1 : Int32) (99 : Int32) = _ from a1, Option.bind_some]
  by_cases c0 : cN b n 1 99 q = 0
  · obtain ⟨D1, b1, b2, b3⟩ := x_add hk (hR.fx a2 (by omega)) hG hf
    have hGb := boR_good hk hG hf
    have hval : D1.1 1 4 = nI (tV b n q) := by rw [b3.1 1 (by omega)]; exact a3.2.2.2 (cN_0 c0).1
    have h33 : ∀ i, D1.1 33 i = D.1 33 i := fun i => by rw [b3.1 33 (by omega)]
    have F1 : Fy d D1 := (Fy.fx a2).tr (Fy.bw b3)
    rw [if_pos c0, if_neg one_ne, W_cls isW18, if_pos rfl]
    rw [show f_X7_add L0 ((1 : Int32), D).2 18 (nI k) = _ from b1, Option.bind_some]
    by_cases e9 : v = 9
    · rw [if_pos (show nI v = 9 by rw [e9]; rfl)]
      refine ⟨D1, rfl, F1, fun z => absurd c0 z, fun _ => ⟨by unfold chR; rw [if_pos e9]; exact b2, by rw [h33, a2.2.2]; exact ht, by rw [h33, a4 c0]; exact h3, by rw [b3.1 1 (by omega)]; exact a3.2.2.1⟩⟩
    · have hv4 : v < 4 := by omega
      obtain ⟨D2, g1, g2, g3, g4⟩ := x_app isW18 b2 hGb (nI (nk r)) (nI v) (nI (tV b n q))
      have h33' : ∀ i, D2.1 33 i = D.1 33 i := fun i => by rw [g4.1 33 (by omega), h33]
      rw [apF_ok hG hf hv4 (cN_0 c0).2.1 (cN_0 c0).2.2] at g2
      rw [if_neg (show ¬ nI v = 9 from fun z => e9 (nI_inj (b := 9) (by omega) (by omega) z)), Rd_t, Option.bind_some, T_cls, if_pos rfl, b2.sz hGb, boR_nk hf, nI_pred, hval, g1, Option.bind_some]
      refine ⟨D2, rfl, F1.tr (Fy.bw g4), fun z => absurd c0 z, fun _ => ⟨by unfold chR; rw [if_neg e9]; exact g2, by rw [h33', a2.2.2]; exact ht, by rw [h33', a4 c0]; exact h3, by rw [g4.1 1 (by omega), b3.1 1 (by omega)]; exact a3.2.2.1⟩⟩
  · rw [if_neg c0, if_pos rfl]
    exact ⟨D, rfl, Fy.fx a2, a5, fun z => absurd z c0⟩
theorem x_chil {d : Dt} {k M p : Nat} {r : Rw} (hX : TpX b n d) (hC : CT b n d p) (hp : p ≤ n) (hR : RW d 18 r) (hG : Good r) (hk : k < 4) (ht : d.1 33 1 = nI (M / 16)) (h3 : d.1 33 2 = 0) : ∃ z D, (Option.bind (f_X3_readChild L0 d 33 18 (nI k)) fun z16 => if z16.1 = 0 then (some ((0 : Int32), z16.2)) else (Option.bind (f_X3_readStop L0 z16.2 33) fun z18 => if z18.1 = 0 then (some ((0 : Int32), z18.2)) else (some ((1 : Int32), z18.2)))) = some (z, D) ∧ Fy d D ∧ ((phC b n r p).1 = 0 → z = 1 ∧ RW D 18 (chR r k (tV b n (ep1 b n p)) (tV b n (ep2 b n p))) ∧ D.1 33 1 = nI (M / 16) ∧ D.1 33 2 = 0 ∧ D.1 1 5 = nI (tE b n (ep3 b n p))) ∧ (¬ (phC b n r p).1 = 0 → z = 0 ∧ XF D (phC b n r p).1 (phC b n r p).2) := by
  have hE := ep_le (b := b) hp
  have h5 : d.1 1 5 = nI (ep1 b n p) := hC.2.2.1
  have hn5 := hG.1.2
  unfold f_X3_readChild
  rw [W_cls isW18, if_pos rfl, hR.sz hG, Rd_cls]
  by_cases hf : 5 ≤ nk r
  · have hφ : phC b n r p = (5, tS b n p) := by unfold phC; rw [if_pos hf, nx_c (c := 5) (by omega), nx_c (c := 5) (by omega), nx_c (c := 5) (by omega)]
    obtain ⟨D, e, F, -, g⟩ := x_fail (c := 5) hC.2.1 (by omega)
    rw [if_neg (show ¬ nI (nk r) < 5 from nI_nlt (b := 5) hf (by omega)), if_pos rfl, show f_X3_fail L0 d 33 (5 : Int32) = _ from e, Option.bind_some, if_pos (Or.inl rfl), Option.bind_some, if_pos rfl, hφ]
    exact ⟨0, D, rfl, Fy.fx F, fun q => absurd q (show ¬ (5 : Nat) = 0 by decide), fun _ => ⟨rfl, g⟩⟩
  have hφ : phC b n r p = nx (nx (cC b n (ep1 b n p), tS b n (ep1 b n p)) (cN b n 1 99 (ep2 b n p)) (tS b n (ep2 b n p))) (cS b n (ep3 b n p)) (tS b n (ep3 b n p)) := by unfold phC; rw [if_neg hf, nx_z]
  obtain ⟨D, a1, a2, a3, a4, a5⟩ := x_rn (lo := 0) (hi := 9) hX h5 hE.1 (by omega) (by omega)
  rw [if_pos (show nI (nk r) < 5 from nI_lt (b := 5) (by omega) (by omega)), if_pos rfl, hφ, show f_X3_readNumber L0 d 33 (0 : Int32) (9 : Int32) = _ from a1, Option.bind_some]
  by_cases c0 : cN b n 0 9 (ep1 b n p) = 0
  · have hv : D.1 1 4 = nI (tV b n (ep1 b n p)) := a3.2.2.2 (cN_0 c0).1
    have hv9 := (cN_0 c0).2.2
    rw [if_pos c0, if_neg one_ne, Rd_t, Option.bind_some, T_cls, if_pos rfl]
    rw [show ((1 : Int32), D).2.1 1 4 = nI (tV b n (ep1 b n p)) from hv]
    by_cases hs : tV b n (ep1 b n p) < 4 ∨ tV b n (ep1 b n p) = 9
    · have hcC : cC b n (ep1 b n p) = 0 := by unfold cC; rw [if_pos c0, if_pos hs]
      obtain ⟨D1, b1, b2, b3, b4⟩ := x_J56 (k := k) (v := tV b n (ep1 b n p)) (m := M / 16) (hX.mvy (Fy.fx a2)) a3.2.2.1 hE.2.1 (hR.fx a2 hn5) hG (by omega) hk hs (by rw [a2.2.2]; exact ht) (by rw [a4 c0]; exact h3)
      have F1 := (Fy.fx a2).tr b2
      have eJ : f_X3_readChild_J53 L0 ((1 : Int32), D).2 33 18 (nI k) (nI (tV b n (ep1 b n p))) = _ := b1
      have hJ : (if f_X8_isSeason (nI (tV b n (ep1 b n p))) = 0 then (if nI (tV b n (ep1 b n p)) = (9 : Int32) then f_X3_readChild_J53 L0 ((1 : Int32), D).2 33 18 (nI k) (nI (tV b n (ep1 b n p))) else (Option.bind (f_X3_fail L0 ((1 : Int32), D).2 33 (3 : Int32)) fun z21 => if (z21.1 = 0 ∨ z21.1 = 1) then (some (z21.1, z21.2)) else none)) else f_X3_readChild_J53 L0 ((1 : Int32), D).2 33 18 (nI k) (nI (tV b n (ep1 b n p)))) = f_X3_readChild_J53 L0 ((1 : Int32), D).2 33 18 (nI k) (nI (tV b n (ep1 b n p))) := by
        by_cases z0 : f_X8_isSeason (nI (tV b n (ep1 b n p))) = 0
        · have z9 : tV b n (ep1 b n p) = 9 := by
            rcases hs with z | z
            · exact absurd z0 (seas_iff.mpr ⟨_, z, rfl⟩)
            · exact z
          rw [if_pos z0, if_pos (show nI (tV b n (ep1 b n p)) = 9 by rw [z9]; rfl)]
        · rw [if_neg z0]
      rw [hJ, eJ, Option.bind_some, hcC, nx_z]
      by_cases c1 : cN b n 1 99 (ep2 b n p) = 0
      · have c1' : cN b n 1 99 (tE b n (ep1 b n p)) = 0 := c1
        obtain ⟨g1, g2, g3, g4⟩ := b4 c1
        rw [if_pos c1', if_neg one_ne, c1, nx_z]
        obtain ⟨D4, s1, s2, s3, s4, s5⟩ := x_stop (hX.mvy F1) g4 hE.2.2.1
        rw [show f_X3_readStop L0 ((1 : Int32), D1).2 33 = _ from s1, Option.bind_some]
        have K4 := F1.tr (Fy.fx s2)
        have n3 : nk (chR r k (tV b n (ep1 b n p)) (tV b n (tE b n (ep1 b n p)))) ≤ 5 := by
          unfold chR
          split
          · rw [boR_nk (by omega)]; omega
          · exact (apR_good hG (by omega) hk (by omega) (cN_0 c1).2.1 (cN_0 c1).2.2).1.2
        by_cases c4 : cS b n (ep3 b n p) = 0
        · have c4' : cS b n (tE b n (tE b n (ep1 b n p))) = 0 := c4
          rw [if_pos c4', if_neg one_ne]
          exact ⟨1, D4, rfl, K4, fun _ => ⟨rfl, RW.fx g1 s2 n3, by rw [s2.2.2]; exact g2, by rw [s4 c4']; exact g3, s3.2.2.1⟩, fun q => absurd c4 q⟩
        · have c4' : ¬ cS b n (tE b n (tE b n (ep1 b n p))) = 0 := c4
          rw [if_neg c4', if_pos rfl]
          exact ⟨0, D4, rfl, K4, fun q => absurd q c4, fun _ => ⟨rfl, s5 c4'⟩⟩
      · have c1' : ¬ cN b n 1 99 (tE b n (ep1 b n p)) = 0 := c1
        rw [if_neg c1', if_pos rfl, nx_c c1]
        exact ⟨0, D1, rfl, F1, fun q => absurd q c1, fun _ => ⟨rfl, b3 c1'⟩⟩
    · have hcC : cC b n (ep1 b n p) = 3 := by unfold cC; rw [if_pos c0, if_neg hs]
      obtain ⟨D', e', g1, g2, g3⟩ := x_fail (d := D) (c := 3) a3.2.1 (by omega)
      have z0 : f_X8_isSeason (nI (tV b n (ep1 b n p))) = 0 := Decidable.byContradiction (fun h => by
        obtain ⟨s, hs', es⟩ := seas_iff.mp h
        have := nI_inj (by omega) (by omega) es
        omega)
      rw [if_pos z0, if_neg (show ¬ nI (tV b n (ep1 b n p)) = 9 from fun z => hs (Or.inr (nI_inj (b := 9) (by omega) (by omega) z))), show f_X3_fail L0 ((1 : Int32), D).2 33 (3 : Int32) = _ from e', Option.bind_some, if_pos (Or.inl rfl), Option.bind_some, if_pos rfl, hcC, nx_c (c := 3) (by omega), nx_c (c := 3) (by omega)]
      exact ⟨0, D', rfl, (Fy.fx a2).tr (Fy.fx g1), fun q => absurd q (show ¬ (3 : Nat) = 0 by decide), fun _ => ⟨rfl, g3⟩⟩
  · have hcC : cC b n (ep1 b n p) = cN b n 0 9 (ep1 b n p) := by unfold cC; rw [if_neg c0]
    rw [if_neg c0, if_pos rfl, Option.bind_some, if_pos rfl, hcC, nx_c c0, nx_c c0]
    exact ⟨0, D, rfl, Fy.fx a2, fun q => absurd q c0, fun _ => ⟨rfl, a5 c0⟩⟩
def xB (k : Nat) (d : Dt) : Option (Int32 × Dt) := if 8 ≤ k then (Option.bind (f_X3_failAtToken L0 d 33) fun z3 => if (z3.1 = 0 ∨ z3.1 = 1) then (some (z3.1, z3.2)) else none) else if 4 ≤ k then (Option.bind (f_X3_readChild L0 d 33 18 (nI (k - 4))) fun z11 => if z11.1 = 0 then (some ((0 : Int32), z11.2)) else (Option.bind (f_X3_readStop L0 z11.2 33) fun z13 => if z13.1 = 0 then (some ((0 : Int32), z13.2)) else (some ((1 : Int32), z13.2)))) else (Option.bind (f_X3_readSeason L0 d 33 (18 + 6 + k) (nI k)) fun z11 => if z11.1 = 0 then (some ((0 : Int32), z11.2)) else (Option.bind (f_X3_readStop L0 z11.2 33) fun z13 => if z13.1 = 0 then (some ((0 : Int32), z13.2)) else (some ((1 : Int32), z13.2))))
theorem x_lineL {d : Dt} {p : Nat} (hX : TpX b n d) (hC : CT b n d p) (hp : p ≤ n) : ∀ f i, i ≤ 8 → 8 - i < f → f_X3_readLine_L2 L0 33 18 f (nI i) d = xB (sk (fun i => !(wdp b n p i)) (8 - i) i) d := by
  intro f
  induction f with
  | zero => intro i h1 h2; omega
  | succ f ih =>
    intro i h1 h2
    unfold f_X3_readLine_L2
    by_cases h8 : i < 8
    · rw [if_neg (show ¬ (8 : Int32) ≤ nI i from nI_ge (b := 8) h8 (by omega)), Rd_t, Option.bind_some, T_cls, if_pos rfl, x_nameOf i h8, x_named hX hC hp h8, Option.bind_some, sk_succ h8]
      by_cases hw : wdp b n p i = true
      · rw [if_pos hw, if_neg one_ne, if_neg (show ¬ (!(wdp b n p i)) = true by rw [hw]; decide)]
        unfold xB
        rw [if_neg (show ¬ 8 ≤ i by omega)]
        by_cases h4 : 4 ≤ i
        · rw [if_pos (show (4 : Int32) ≤ nI i from nI_le (a := 4) h4 (by omega)), Rd_cls, if_pos rfl, if_pos h4, show nI i - (4 : Int32) = nI (i - 4) from nI_sub (b := 4) h4]
        · rw [if_neg (show ¬ (4 : Int32) ≤ nI i from nI_ge (b := 4) (by omega) (by omega)), W_se isW18, Option.bind_some, W_ras isW18 (by omega), Option.bind_some, Rd_cls, if_pos rfl, if_neg h4]
      · rw [if_neg hw, if_pos rfl, nI_1, ih (i + 1) (by omega) (by omega), if_pos (show (!(wdp b n p i)) = true by rw [Bool.not_eq_true', Bool.eq_false_iff]; exact hw)]
    · have : i = 8 := by omega
      subst this
      rw [if_pos (show (8 : Int32) ≤ nI 8 by decide), Rd_cls, if_pos rfl, sk_end (by omega)]
      unfold xB
      rw [if_pos (show 8 ≤ 8 by omega)]
theorem x_line {d : Dt} {M p : Nat} {r : Rw} (hX : TpX b n d) (hC : CT b n d p) (hp : p ≤ n) (hR : RW d 18 r) (hG : Good r) (hM : M < 256) (ht : d.1 33 1 = nI (M / 16)) (h3 : d.1 33 2 = 0) : ∃ z D, f_X3_readLine L0 d 33 18 = some (z, D) ∧ Fy d D ∧ ((phL b n r M p).1 = 0 → z = 1 ∧ RW D 18 (roL b n r p) ∧ D.1 33 1 = nI (toL b n M p / 16) ∧ D.1 33 2 = 0 ∧ D.1 1 5 = nI (poL b n p)) ∧ (¬ (phL b n r M p).1 = 0 → z = 0 ∧ XF D (phL b n r M p).1 (phL b n r M p).2) := by
  have hL : f_X3_readLine L0 d 33 18 = xB (li b n p) d := x_lineL hX hC hp FU 0 (by omega) (by unfold FU; omega)
  rw [hL]
  unfold xB phL roL toL poL
  by_cases h8 : 8 ≤ li b n p
  · obtain ⟨D, e, F, -, g⟩ := x_fat hC
    rw [if_pos h8, if_neg (show ¬ li b n p < 4 by omega), if_neg (show ¬ li b n p < 8 by omega), e, Option.bind_some, if_pos (Or.inl rfl)]
    refine ⟨0, D, rfl, Fy.fx F, fun q => absurd q ?_, fun _ => ⟨rfl, g⟩⟩
    show ¬ (if tK b n p = 1 then 1 else 2) = 0
    split <;> omega
  · rw [if_neg h8]
    by_cases h4 : 4 ≤ li b n p
    · obtain ⟨z, D, q1, q2, q3, q4⟩ := x_chil (k := li b n p - 4) (M := M) hX hC hp hR hG (by omega) ht h3
      rw [if_pos h4, if_neg (show ¬ li b n p < 4 by omega), if_pos (show li b n p < 8 by omega), if_neg (show ¬ li b n p < 4 by omega), if_neg (show ¬ li b n p < 4 by omega), q1, show (li b n p + 4) % 8 = li b n p - 4 by omega, bD M hM _ (by omega)]
      exact ⟨z, D, rfl, q2, q3, q4⟩
    · obtain ⟨z, D, q1, q2, q3, q4⟩ := x_seas (s := li b n p) (M := M) hX hC hp hR hG.1.2 (by omega) hM ht h3
      rw [if_neg h4, if_pos (show li b n p < 4 by omega), if_pos (show li b n p < 4 by omega), if_pos (show li b n p < 4 by omega), q1, show (li b n p + 4) % 8 = li b n p + 4 by omega]
      exact ⟨z, D, rfl, q2, q3, q4⟩
end XCH
