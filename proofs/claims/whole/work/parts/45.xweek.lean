/-! ===== the class's week ===== -/
theorem ps {d : Dt} {q k : Nat} {v : Int32} : (pI d q k v).1 q k = v := by rw [pI_self, upd_s]
theorem pk {d : Dt} {q k j : Nat} {v : Int32} (h : j ≠ k) : (pI d q k v).1 q j = d.1 q j := by rw [pI_self, upd_n h]
def KRf (d : Dt) (w : Nat) (f : Nat → Int32) (c : Nat) : Prop := d.1 (w + 10 + c) 0 = f 0 ∧ d.1 (w + 10 + c) 2 = f 2 ∧ d.1 (w + 10 + c) 3 = f 3 ∧ d.1 (w + 10 + c) 4 = f 4 ∧ (f 2 ≠ 0 → d.1 (w + 10 + c) 1 = f 1) ∧ ∃ s, s < 4 ∧ d.1 (w + 10 + c) 1 = nI s
theorem x_live {d : Dt} {w c i : Nat} (hw : isW w) (hc : c < 5) (hi : i < 4) : f_X1_liveWeekOf L0 d (w + 10 + c) (w + 6 + i) = some (if d.1 (w + 10 + c) 2 ≤ 0 then pI d (w + 10 + c) 4 (jmin 999 (d.1 (w + 10 + c) 4 + 1)) else pI (pI (pI d (w + 10 + c) 4 (jmin 999 (d.1 (w + 10 + c) 4 + 1))) (w + 10 + c) 3 (f_X8_raised (d.1 (w + 10 + c) 3) (f_X8_learns (d.1 (w + 10 + c) 0) (d.1 (w + 6 + i) 1)) (d.1 (w + 6 + i) 2))) (w + 10 + c) 2 (d.1 (w + 10 + c) 2 - 1)) := by
  unfold f_X1_liveWeekOf
  generalize jmin 999 (d.1 (w + 10 + c) 4 + 1) = A
  rw [W_ccl hw hc, if_pos rfl, W_scl hw hi, if_pos rfl, pk (j := 2) (by decide), pk (j := 3) (by decide), pk (j := 0) (by decide), pI_ne (a := w + 6 + i) (by omega), pk (j := 2) (by decide), pk (j := 2) (by decide)]
  split <;> rfl
section XW
variable {w : Nat} {r : Rw}
def Pw (w : Nat) (r : Rw) (d0 : Dt) (m : Nat) (d : Dt) : Prop := (∀ a, (a < w + 10 ∨ w + 10 + m ≤ a) → d.1 a = d0.1 a) ∧ d.2 = d0.2 ∧ ∀ c, c < m → KRf d w (kid 0 r c) c
/-- one child's week, the class's way -/
theorem x_kid {d : Dt} (hw : isW w) (hG : Good r) {c i : Nat} (hi : i < 4) (e : r 38 = nI i) (hc : c < nk r) (hK : KR d w r c) (hl : liv r c) (hs : d.1 (w + 6 + i) 1 = r (3 * i + 1) ∧ d.1 (w + 6 + i) 2 = r (3 * i + 2)) : ∃ d', f_X1_liveWeekOf L0 d (w + 10 + c) (w + 6 + i) = some d' ∧ (∀ a, a ≠ w + 10 + c → d'.1 a = d.1 a) ∧ d'.2 = d.2 ∧ KRf d' w (kid 0 r c) c := by
  have h5 := hG.1.2
  refine ⟨_, x_live hw (show c < 5 by omega) hi, ?_⟩
  obtain ⟨k0, k2, k3, k4, k1, ks⟩ := hK
  have hK' : KR d w r c := ⟨k0, k2, k3, k4, k1, ks⟩
  have hgk := hG.2.2.2.2.2.2.1 c hc
  obtain ⟨k, b, t, x, a, hn⟩ := hgk.kn
  have hfr := (hK'.free hgk).2
  have hage : kAge r c = jmin 999 (d.1 (w + 10 + c) 4 + 1) := by
    unfold kAge
    rw [if_pos hl, lesser_jmin, k4]
  rw [← hage]
  by_cases hb : r (12 + 5 * c + 1) = -4
  · have hna : ¬ act r c := fun q => q.1 hb
    rw [if_pos (hfr.mpr hb)]
    refine ⟨fun a ha => pI_ne ha, rfl, ?_⟩
    refine ⟨by rw [pk (by decide), k0]; rfl, by rw [pk (by decide), k2, kid2, kTerm, if_neg hna], by rw [pk (by decide), k3, kid3, kSkill, if_neg (fun q => hna q.1)], by rw [ps, kid4], ?_, ?_⟩
    · intro h2
      rw [kid2, kTerm, if_neg hna] at h2
      rw [pk (by decide), k1 h2, kid1, kBnd, if_neg (fun q => hna q.1)]
      rfl
    · rw [pk (by decide)]
      exact ks
  · rw [if_neg (fun q => hb (hfr.mp q))]
    have ha : act r c := ⟨hb, hl.resolve_left hb⟩
    obtain ⟨ht0, rfl⟩ := (hn.act_iff hi e).mp ha
    obtain ⟨y, g, m, hsn⟩ := (hG.2.2.2.2.2.1 b hi).sn
    obtain ⟨e0, hk, e2, ht, h1, e3, hx, e4, ha9⟩ := id hn
    obtain ⟨s0, s1, s2, s3, s4, s5, s6⟩ := hsn
    obtain ⟨l1, l2, l3⟩ := learn_all k hk g (by omega)
    refine ⟨fun a ha => by rw [pI_ne ha, pI_ne ha, pI_ne ha], rfl, ?_⟩
    refine ⟨by rw [pk (by decide), pk (by decide), pk (by decide), k0]; rfl, by rw [ps, k2, kid2, kTerm, if_pos ha], ?_, by rw [pk (by decide), pk (by decide), ps, kid4], ?_, ?_⟩
    · rw [pk (by decide), ps, k3, k0, hs.1, hs.2, e3, e0, s3, s5, l1, raised_nI (by omega) (by omega) (by omega), kid3, kSkill, if_pos ⟨ha, rfl⟩, e3]
      have hth : thenR r c = f_X9_lesser (nI m) (nI x + nI (lrnN k g)) := by
        unfold thenR
        rw [(hn.bd ht0).1, nI_clamp (by omega), s5, s3, e3, e0, l2]
      rw [hth]
      exact (skill_nI (by omega) (by omega) (by omega)).symm
    · intro h2
      rw [pk (by decide), pk (by decide), pk (by decide)]
      have h3 : r (12 + 5 * c + 2) ≠ 0 := by rw [e2]; exact nI_ne0 ht0 (by omega)
      rw [k1 h3, kid1, kBnd]
      rw [kid2, kTerm, if_pos ha] at h2
      rw [if_neg (fun q => h2 q.2)]
      rfl
    · rw [pk (by decide), pk (by decide), pk (by decide)]
      exact ks
theorem x_week_L {d0 : Dt} (hw : isW w) (hG : Good r) (hR : RW d0 w r) {k50 : Int32 → Dt → Option Dt} : ∀ (n c : Nat) (d : Dt), c ≤ nk r → nk r - c < n → Pw w r d0 c d → ∃ d', Pw w r d0 (nk r) d' ∧ f_X7_passOne_L2 L0 w k50 n (nI c) d = k50 (nI (nk r)) d' := by
  have h5 := hG.1.2
  obtain ⟨i, hi, e⟩ := hG.2.1
  intro n
  induction n with
  | zero => intro c d h1 h2; omega
  | succ n ih =>
    intro c d h1 h2 hP
    unfold f_X7_passOne_L2
    rw [W_cls hw, if_pos rfl]
    have hz : d.1 w = d0.1 w := hP.1 w (by omega)
    rw [hz, hR.sz hG]
    by_cases hc : c = nk r
    · subst hc
      rw [if_pos (nI_le (Nat.le_refl _) (by omega))]
      exact ⟨d, hP, rfl⟩
    · have hcn : c < nk r := by omega
      have hc5 : c < 5 := by omega
      rw [if_neg (nI_ge hcn (by omega)), W_ch hw, Option.bind_some, W_rac hw hc5, Option.bind_some, W_ccl hw hc5, if_pos rfl]
      have hq : d.1 (w + 10 + c) = d0.1 (w + 10 + c) := hP.1 _ (by omega)
      have hK : KR d w r c := by
        have := hR.2.2.1 c hcn
        unfold KR at *
        rw [hq]
        exact this
      have hlv : f_X1_livesIn L0 d (w + 10 + c) (d0.1 w 3) = some (if liv r c then 1 else 0) := by
        have h9 := x_livesIn hw hR hG hcn
        unfold f_X1_livesIn at *
        rw [hq]
        exact h9
      rw [hlv, Option.bind_some]
      by_cases hl : liv r c
      · rw [if_pos hl, if_neg one_ne, W_se hw, Option.bind_some, hR.1.2.1, e, W_ras hw hi, Option.bind_some]
        obtain ⟨d1, e1, h6, h7, h8⟩ := x_kid hw hG hi e hcn hK hl ⟨by rw [hP.1 _ (by omega)]; exact (hR.2.1 i hi).2.1, by rw [hP.1 _ (by omega)]; exact (hR.2.1 i hi).2.2⟩
        rw [e1, Option.bind_some, nI_1]
        refine ih (c + 1) d1 (by omega) (by omega) ⟨fun a ha => by rw [h6 a (by omega)]; exact hP.1 a (by omega), h7.trans hP.2.1, fun c' hc' => ?_⟩
        by_cases hcc : c' = c
        · subst hcc; exact h8
        · have := hP.2.2 c' (by omega)
          unfold KRf at *
          rw [h6 _ (by omega)]
          exact this
      · rw [if_neg hl, if_pos rfl, nI_1]
        refine ih (c + 1) d (by omega) (by omega) ⟨fun a ha => hP.1 a (by omega), hP.2.1, fun c' hc' => ?_⟩
        by_cases hcc : c' = c
        · subst hcc
          unfold KR at hK
          unfold KRf
          rw [kid_dead hl (by omega), kid_dead hl (by omega), kid_dead hl (by omega), kid_dead hl (by omega), kid_dead hl (by omega)]
          exact hK
        · exact hP.2.2 c' (by omega)
theorem x_passOne {d : Dt} (hw : isW w) (hG : Good r) (hR : RW d w r) : ∃ d', f_X7_passOne L0 d w = some d' ∧ RW d' w (wk 0 r) ∧ Bw w d d' := by
  have h5 := hG.1.2
  obtain ⟨i, hi, e⟩ := hG.2.1
  obtain ⟨x, hx1, hx2, ex⟩ := hG.2.2.1
  unfold f_X7_passOne
  obtain ⟨d', hP, heq⟩ := x_week_L (d0 := d) hw hG hR (k50 := fun x11_1 d11 => _) FU 0 d (Nat.zero_le _) (by unfold FU; omega) ⟨fun _ _ => rfl, rfl, fun c hc => absurd hc (Nat.not_lt_zero c)⟩
  rw [show f_X7_passOne_L2 L0 w _ FU (0 : Int32) d = _ from heq]
  clear heq
  have hz : d'.1 w = d.1 w := hP.1 w (by omega)
  have h4 : (i + 1) % 4 < 4 := Nat.mod_lt _ (by decide)
  have hnit := nit_nI hi e
  have hle : d'.1 w 4 - 1 = r 39 - 1 := by rw [hz, hR.1.2.2.1]
  have hnow : (d'.1 w 3 + 1) - (d'.1 w 3 + 1) / 4 * 4 = nI ((i + 1) % 4) := by rw [hz, hR.1.2.1]; exact hnit
  have hlen : d'.1 (w + 6 + (i + 1) % 4) 0 = r (3 * ((i + 1) % 4)) := by rw [hP.1 _ (by omega)]; exact (hR.2.1 _ h4).1
  have hfin : ∀ D : Dt, (∀ a, a ≠ w → D.1 a = d'.1 a) → D.2 = d'.2 → D.1 w 2 = d'.1 w 2 → D.1 w 9 = d'.1 w 9 → D.1 w 3 = wk 0 r 38 → D.1 w 4 = wk 0 r 39 → D.1 w 5 = wk 0 r 40 → RW D w (wk 0 r) ∧ Bw w d D := by
    intro D h0 h02 h2 h9 h3 h44 h55
    refine ⟨⟨⟨by rw [h2, hz, wk_37 h5]; exact hR.1.1, h3, h44, h55, by rw [h9, hz, wk_hi h5 (by omega)]; exact hR.1.2.2.2.2⟩, fun s hs => ?_, fun c hc => ?_, fun j hj => ?_⟩, fun a ha => ?_, h02.trans hP.2.1⟩
    · rw [h0 _ (by omega), hP.1 _ (by omega), wk_lo (by omega), wk_lo (by omega), wk_lo (by omega)]
      exact hR.2.1 s hs
    · rw [wk_nk h5] at hc
      have := hP.2.2 c hc
      have hkd := wk_kid (off := 0) hc h5
      have k0 := hkd 0 (by omega)
      simp only [Nat.add_zero] at k0
      unfold KR
      unfold KRf at this
      rw [h0 _ (by omega), k0, hkd 1 (by omega), hkd 2 (by omega), hkd 3 (by omega), hkd 4 (by omega)]
      exact this
    · rw [wk_ns h5] at hj
      rw [h0 _ (by omega), h0 _ (by omega), h0 _ (by omega), hP.1 _ (by omega), hP.1 _ (by omega), hP.1 _ (by omega), wk_hi h5 (by omega), wk_hi h5 (by omega), wk_hi h5 (by omega)]
      exact hR.2.2.2 j hj
    · rw [h0 a (by omega)]
      exact hP.1 a (by omega)
  rw [W_cls hw, if_pos rfl]
  simp only [ps]
  by_cases hq : r 39 - 1 = 0
  · rw [if_pos (hle.trans hq), W_se hw, Option.bind_some, pk (j := 3) (by decide), hnow, W_ras hw h4, Option.bind_some, W_scl hw h4, if_pos rfl]
    refine ⟨_, rfl, hfin _ (fun a ha => by rw [pI_ne ha, pI_ne ha, pI_ne ha, pI_ne ha]) rfl (by rw [pk (by decide), pk (by decide), pk (by decide), pk (by decide)]) (by rw [pk (by decide), pk (by decide), pk (by decide), pk (by decide)]) ?_ ?_ ?_⟩
    · rw [pk (by decide), pk (by decide), ps, wk_38, if_pos hq, hnit]
    · rw [pk (by decide), ps, pI_ne (by omega), pI_ne (by omega), hlen, wk_39, if_pos hq, hnit, nI_clamp (by omega)]
    · rw [ps, pk (by decide), pk (by decide), pk (by decide), hz, hR.1.2.2.2.1, wk_40]
  · rw [if_neg (fun z => hq (hle.symm.trans z))]
    refine ⟨_, rfl, hfin _ (fun a ha => by rw [pI_ne ha, pI_ne ha]) rfl (by rw [pk (by decide), pk (by decide)]) (by rw [pk (by decide), pk (by decide)]) ?_ ?_ ?_⟩
    · rw [pk (by decide), pk (by decide), hz, hR.1.2.1, wk_38, if_neg hq]
    · rw [pk (by decide), ps, hle, wk_39, if_neg hq]
    · rw [ps, pk (by decide), hz, hR.1.2.2.2.1, wk_40]
end XW
