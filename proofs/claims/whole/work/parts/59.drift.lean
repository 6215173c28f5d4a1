/-! ===== drift ===== -/
theorem and15 (y : Int32) : y &&& 32767 = nI (y.toBitVec.toNat % 32768) := by
  apply Int32.toBitVec.inj
  apply BitVec.eq_of_toNat_eq
  have h1 : (y &&& 32767 : Int32).toBitVec = y.toBitVec &&& (32767 : Int32).toBitVec := rfl
  have h2 : (nI (y.toBitVec.toNat % 32768)).toBitVec = BitVec.ofNat 32 (y.toBitVec.toNat % 32768) := rfl
  have h3 : ((32767 : Int32).toBitVec).toNat = 2 ^ 15 - 1 := by decide
  rw [h1, h2, BitVec.toNat_and, h3, Nat.and_two_pow_sub_one_eq_mod, BitVec.toNat_ofNat]
  have : y.toBitVec.toNat % 2 ^ 15 < 2 ^ 15 := Nat.mod_lt _ (by omega)
  show y.toBitVec.toNat % 32768 = _
  omega
theorem sh_eq (s : Int32) : (s >>> ((16 : Int32) &&& 31)) &&& 32767 = (s.toUInt32 >>> ((16 : Int32).toUInt32 &&& Int32.toUInt32 31)).toInt32 &&& 32767 := by
  apply Int32.toBitVec.inj
  have h1 : ((s >>> ((16 : Int32) &&& 31)) &&& 32767 : Int32).toBitVec = s.toBitVec.sshiftRight 16 &&& (32767 : Int32).toBitVec := rfl
  have h2 : ((s.toUInt32 >>> ((16 : Int32).toUInt32 &&& Int32.toUInt32 31)).toInt32 &&& 32767 : Int32).toBitVec = s.toBitVec >>> 16 &&& (32767 : Int32).toBitVec := rfl
  rw [h1, h2]
  apply BitVec.eq_of_getLsbD_eq
  intro i hi
  rw [BitVec.getLsbD_and, BitVec.getLsbD_and]
  by_cases h : i < 15
  · rw [BitVec.getLsbD_sshiftRight, BitVec.getLsbD_ushiftRight]
    have a1 : ¬ 32 ≤ i := by omega
    have a2 : 16 + i < 32 := by omega
    simp [a2, hi, a1]
  · have hb : ((32767 : Int32).toBitVec).getLsbD i = false := by
      have key : ∀ i : Fin 32, 15 ≤ i.val → ((32767 : Int32).toBitVec).getLsbD i.val = false := by decide
      exact key ⟨i, hi⟩ (by show 15 ≤ i; omega)
    rw [hb, Bool.and_false, Bool.and_false]
def drM (s : Int32) : Nat := (s.toUInt32 >>> ((16 : Int32).toUInt32 &&& Int32.toUInt32 31)).toInt32.toBitVec.toNat % 32768
theorem drM_x (s : Int32) : (s.toUInt32 >>> ((16 : Int32).toUInt32 &&& Int32.toUInt32 31)).toInt32 &&& 32767 = nI (drM s) := and15 _
theorem drM_m (s : Int32) : (s >>> ((16 : Int32) &&& 31)) &&& 32767 = nI (drM s) := (sh_eq s).trans (drM_x s)
theorem drM_lt (s : Int32) : drM s < 32768 := Nat.mod_lt _ (by omega)
def drC (r : Rw) (s : Int32) : Nat := drM s % nk r
def drN (r : Rw) (s : Int32) : Rw := if r (12 + 5 * drC r s + 1) = -4 then apR r (nI (drC r s)) (nI (drM s / 8 % 4)) (nI (1 + drM s / 32 % 9)) else r
def nxt (s : Int32) : Int32 := s * 1103515245 + 12345
def drF : Nat → Int32 → Rw → Rw
  | 0, _, r => r
  | k + 1, s, r => drF k (nxt s) (wk 0 (drN r (nxt s)))
theorem drN_ap {r : Rw} (hG : Good r) (h0 : 0 < nk r) (s : Int32) : (apF r (nI (drC r s)) (nI (drM s / 8 % 4)) (nI (1 + drM s / 32 % 9))).2 = drN r s := by
  have h5 := hG.1.2
  have hc : drC r s < nk r := Nat.mod_lt _ h0
  unfold apF drN
  rw [if_neg (by rw [hG.1.1]; exact (has_iff (by omega)).mpr ⟨_, hc, rfl⟩), if_neg (seas_iff.mpr ⟨_, Nat.mod_lt _ (by omega), rfl⟩), if_neg (show ¬ f_X8_within (nI (1 + drM s / 32 % 9)) 1 99 = 0 from (wi_iff (a := 1) (b := 99) (by omega) (by omega)).mpr ⟨1 + drM s / 32 % 9, by omega, by have := Nat.mod_lt (drM s / 32) (show 9 > 0 by omega); omega, rfl⟩), nI_clamp (by omega)]
  split <;> rfl
theorem drN_nk {r : Rw} (hG : Good r) (h0 : 0 < nk r) (s : Int32) : nk (drN r s) = nk r := by
  rw [← drN_ap hG h0 s]
  unfold nk
  rw [apF_hi hG (by omega)]
theorem drN_good {r : Rw} (hG : Good r) (h0 : 0 < nk r) (s : Int32) : Good (drN r s) := by
  have h5 := hG.1.2
  have hc : drC r s < nk r := Nat.mod_lt _ h0
  have ec : (nI (drC r s)).toNatClampNeg = drC r s := nI_clamp (by omega)
  obtain ⟨g1, g2, g3, g4⟩ := hG.2.2.2.2.2.2.1 _ hc
  have q4 : drM s / 8 % 4 < 4 := Nat.mod_lt _ (by omega)
  have q9 : drM s / 32 % 9 < 9 := Nat.mod_lt _ (by omega)
  unfold drN
  split
  · refine hG.kid hc (fun j hj => by unfold apR; rw [ec, upd_n (by omega), upd_n (by omega)]) ?_
    unfold apR GK
    rw [ec, upd_n (by omega), upd_n (by omega), upd_s, upd_n (by omega), upd_s, upd_n (by omega), upd_n (by omega), upd_n (by omega), upd_n (by omega)]
    exact ⟨g1, ⟨1 + drM s / 32 % 9, by omega, rfl, Or.inr ⟨by omega, _, q4, rfl⟩⟩, g3, g4⟩
  · exact hG
theorem x_drift_L {n k : Nat} {v3 : Int32} (hn : n < 900) (hk : 0 < k) : ∀ (f i : Nat) (s : Int32) (d : Dt) (r : Rw), i ≤ n → n - i < f → Good r → nk r = k → RW d 18 r → ∃ D, Bw 18 d D ∧ f_X8_drift_L55 L0 0 (nI n) v3 (nI k) f s (nI i) d = some (sumK (if v3 = 0 then 3 else 4) (drF (n - i) s r), D) := by
  intro f
  induction f with
  | zero => intro i s d r h1 h2; omega
  | succ f ih =>
    intro i s d r h1 h2 hG hnk hR
    have h5 := hG.1.2
    unfold f_X8_drift_L55
    by_cases hi : i < n
    · rw [if_neg (fun q => by have := (nI_leI (a := n) (b := i) (by omega) (by omega)).mp q; omega), X_trial, Option.bind_some, if_pos (nI_ne0 hk (by omega)), W_cls isW18, if_pos rfl]
      obtain ⟨e1, g1, hR1, hG1, hB1⟩ := x_app isW18 hR hG (nI (drC r (nxt s))) (nI (drM (nxt s) / 8 % 4)) (nI (1 + drM (nxt s) / 32 % 9))
      rw [drN_ap hG (by omega)] at hR1 hG1
      obtain ⟨e2, g2, hR2, hB2⟩ := x_passOne isW18 hG1 hR1
      obtain ⟨D, hD, hq⟩ := ih (i + 1) (nxt s) e2 _ (by omega) (by omega) hG1.wk (by rw [wk_nk hG1.1.2, drN_nk hG (by omega), hnk]) hR2
      refine ⟨D, (hB1.tr hB2).tr hD, ?_⟩
      have b1 := drM_lt (nxt s)
      have m1 : ((((((s * 1103515245) + 12345)).toUInt32 >>> ((16 : Int32).toUInt32 &&& Int32.toUInt32 31)).toInt32 &&& 32767) - (((((s * 1103515245) + 12345)).toUInt32 >>> ((16 : Int32).toUInt32 &&& Int32.toUInt32 31)).toInt32 &&& 32767) / (nI k) * (nI k)) = nI (drC r (nxt s)) := by
        rw [show (s * 1103515245 + 12345) = nxt s from rfl, drM_x, nI_mod (by omega) (by omega)]
        unfold drC
        rw [hnk]
      have m2 : (((((((s * 1103515245) + 12345)).toUInt32 >>> ((16 : Int32).toUInt32 &&& Int32.toUInt32 31)).toInt32 &&& 32767) / 8) - ((((((s * 1103515245) + 12345)).toUInt32 >>> ((16 : Int32).toUInt32 &&& Int32.toUInt32 31)).toInt32 &&& 32767) / 8) / 4 * 4) = nI (drM (nxt s) / 8 % 4) := by
        rw [show (s * 1103515245 + 12345) = nxt s from rfl, drM_x, show (8 : Int32) = nI 8 from rfl, nI_div (by omega) (by omega), show (4 : Int32) = nI 4 from rfl, nI_mod (by omega) (by omega)]
      have m3 : (1 + (((((((s * 1103515245) + 12345)).toUInt32 >>> ((16 : Int32).toUInt32 &&& Int32.toUInt32 31)).toInt32 &&& 32767) / 32) - ((((((s * 1103515245) + 12345)).toUInt32 >>> ((16 : Int32).toUInt32 &&& Int32.toUInt32 31)).toInt32 &&& 32767) / 32) / 9 * 9)) = nI (1 + drM (nxt s) / 32 % 9) := by
        rw [show (s * 1103515245 + 12345) = nxt s from rfl, drM_x, show (32 : Int32) = nI 32 from rfl, nI_div (by omega) (by omega), show (9 : Int32) = nI 9 from rfl, nI_mod (by omega) (by omega), show (1 : Int32) = nI 1 from rfl, nI_add]
      rw [m1, m2, m3, g1, Option.bind_some, g2, Option.bind_some, nI_1]
      rw [show n - i = (n - (i + 1)) + 1 by omega]
      exact hq
    · have : i = n := by omega
      subst this
      rw [if_pos ((nI_leI (by omega) (by omega)).mpr (by omega)), Nat.sub_self]
      refine ⟨d, Bw.rf, ?_⟩
      by_cases h0 : v3 = 0
      · rw [if_pos h0, if_pos h0, X_trial, Option.bind_some, W_cls isW18, if_pos rfl, x_skillSum isW18 hR hG, Option.bind_some]
        rfl
      · rw [if_neg h0, if_neg h0, X_trial, Option.bind_some, W_cls isW18, if_pos rfl, x_ageSum isW18 hR hG, Option.bind_some]
        rfl
theorem m_drift_L {n : Nat} {v3 : Int32} (hn : n < 900) {st : Rw} (hst : st 37 = nI (nk st)) (hk : 0 < nk st) : ∀ (f i : Nat) (s : Int32) (d : Dt) (r : Rw), i ≤ n → n - i < f → Good r → nk r = nk st → Eq60 (d.1 80) r → d.1 79 = st → ∃ D, Bn d D ∧ f_X9_drift_L44 L0 78 (nI n) v3 f s (nI i) d = some (sumK (if v3 = 0 then 3 else 4) (drF (n - i) s r), D) := by
  intro f
  induction f with
  | zero => intro i s d r h1 h2; omega
  | succ f ih =>
    intro i s d r h1 h2 hG hnk hE h79
    have h5 := hG.1.2
    unfold f_X9_drift_L44
    by_cases hi : i < n
    · have b1 := drM_lt (nxt s)
      have hc : drC r (nxt s) < nk r := Nat.mod_lt _ (by omega)
      rw [if_neg (fun q => by have := (nI_leI (a := n) (b := i) (by omega) (by omega)).mp q; omega), M_st, Option.bind_some, mo37, if_pos rfl, t37, h79, hst, if_pos (nI_ne0 hk (by omega)), M_cls, if_pos rfl]
      have m1 : (((((s * 1103515245) + 12345) >>> ((16 : Int32) &&& 31)) &&& 32767) - ((((s * 1103515245) + 12345) >>> ((16 : Int32) &&& 31)) &&& 32767) / (nI (nk st)) * (nI (nk st))) = nI (drC r (nxt s)) := by
        rw [show (s * 1103515245 + 12345) = nxt s from rfl, drM_m, nI_mod (by omega) (by omega)]
        unfold drC
        rw [hnk]
      have m2 : ((((((s * 1103515245) + 12345) >>> ((16 : Int32) &&& 31)) &&& 32767) / 8) - (((((s * 1103515245) + 12345) >>> ((16 : Int32) &&& 31)) &&& 32767) / 8) / 4 * 4) = nI (drM (nxt s) / 8 % 4) := by
        rw [show (s * 1103515245 + 12345) = nxt s from rfl, drM_m, show (8 : Int32) = nI 8 from rfl, nI_div (by omega) (by omega), show (4 : Int32) = nI 4 from rfl, nI_mod (by omega) (by omega)]
      have m3 : (1 + ((((((s * 1103515245) + 12345) >>> ((16 : Int32) &&& 31)) &&& 32767) / 32) - (((((s * 1103515245) + 12345) >>> ((16 : Int32) &&& 31)) &&& 32767) / 32) / 9 * 9)) = nI (1 + drM (nxt s) / 32 % 9) := by
        rw [show (s * 1103515245 + 12345) = nxt s from rfl, drM_m, show (32 : Int32) = nI 32 from rfl, nI_div (by omega) (by omega), show (9 : Int32) = nI 9 from rfl, nI_mod (by omega) (by omega), show (1 : Int32) = nI 1 from rfl, nI_add]
      rw [m1, m2, m3, m_isF hE (by omega), Option.bind_some]
      have hG1 := drN_good hG (by omega) (nxt s)
      have hnk1 := drN_nk hG (by omega) (nxt s)
      have ec : (nI (drC r (nxt s))).toNatClampNeg = drC r (nxt s) := nI_clamp (by omega)
      by_cases hb : r (12 + 5 * drC r (nxt s) + 1) = -4
      · obtain ⟨e1, g1, hE1, hB1⟩ := m_putE hE (c := drC r (nxt s)) (by omega) (k := 1) (by omega) (nI (drM (nxt s) / 8 % 4))
        obtain ⟨e2, g2, hE2, hB2⟩ := m_putE hE1 (c := drC r (nxt s)) (by omega) (k := 2) (by omega) (nI (1 + drM (nxt s) / 32 % 9))
        have hE2' : Eq60 (e2.1 80) (drN r (nxt s)) := by
          unfold drN apR
          rw [if_pos hb, ec]
          exact hE2
        obtain ⟨e3, g3, hE3, hB3⟩ := m_wk hE2' hG1 0
        obtain ⟨D, hD, hq⟩ := ih (i + 1) (nxt s) e3 _ (by omega) (by omega) hG1.wk (by rw [wk_nk hG1.1.2, hnk1, hnk]) hE3 (by rw [hB3.1 79 (by omega), hB2.1 79 (by omega), hB1.1 79 (by omega)]; exact h79)
        refine ⟨D, ((hB1.tr hB2).tr hB3).tr hD, ?_⟩
        rw [if_pos hb, if_neg one_ne, show f_X9_becomesOf L0 d 78 (nI (drC r (nxt s))) (1 : Int32) _ = _ from g1, Option.bind_some, show f_X9_becomesOf L0 e1 78 (nI (drC r (nxt s))) (2 : Int32) _ = _ from g2, Option.bind_some, g3, Option.bind_some, nI_1, show n - i = (n - (i + 1)) + 1 by omega]
        exact hq
      · have hE2' : Eq60 (d.1 80) (drN r (nxt s)) := by
          unfold drN
          rw [if_neg hb]
          exact hE
        obtain ⟨e3, g3, hE3, hB3⟩ := m_wk hE2' hG1 0
        obtain ⟨D, hD, hq⟩ := ih (i + 1) (nxt s) e3 _ (by omega) (by omega) hG1.wk (by rw [wk_nk hG1.1.2, hnk1, hnk]) hE3 (by rw [hB3.1 79 (by omega)]; exact h79)
        refine ⟨D, hB3.tr hD, ?_⟩
        rw [if_neg hb, if_pos rfl, g3, Option.bind_some, nI_1, show n - i = (n - (i + 1)) + 1 by omega]
        exact hq
    · have : i = n := by omega
      subst this
      rw [if_pos ((nI_leI (by omega) (by omega)).mpr (by omega)), Nat.sub_self]
      refine ⟨d, Bn.rf, ?_⟩
      by_cases h0 : v3 = 0
      · rw [if_pos h0, if_pos h0, M_cls, if_pos rfl, show f_X9_sumOf L0 d 78 (3 : Int32) = _ from m_sum (k := 3) hE hG (by omega), Option.bind_some]
        rfl
      · rw [if_neg h0, if_neg h0, M_cls, if_pos rfl, show f_X9_sumOf L0 d 78 (4 : Int32) = _ from m_sum (k := 4) hE hG (by omega), Option.bind_some]
        rfl
theorem st_drift {d : Dt} (hI : Inv d) (a1 a2 a3 : Int32) : ∃ (z1 : Int32 × Dt) (z2 : Int32 × Dt), f_X8_drift L0 d 0 a1 a2 a3 = some z1 ∧ f_X9_drift L0 z1.2 78 a1 a2 a3 = some z2 ∧ z1.1 = z2.1 ∧ Inv z2.2 := by
  obtain ⟨hR, hG, -⟩ := id hI
  have h5 := hG.1.2
  have hin : f_X9_in a2.toInt64 (1 : Int64) (60 : Int64) = f_X8_within a2 1 60 := in_w1 a2 60 (by omega) 60 rfl
  have hpa : f_X9_isPart a3 = f_X8_within a3 0 1 := m_isPart a3
  by_cases h : f_X8_within a2 1 60 = 0
  · exact ⟨(-1, d), (-1, d), by unfold f_X8_drift; rw [if_pos h], by unfold f_X9_drift; rw [hin, if_pos h], rfl, hI⟩
  by_cases h2 : f_X8_within a3 0 1 = 0
  · exact ⟨(-1, d), (-1, d), by unfold f_X8_drift; rw [if_neg h, if_pos h2], by unfold f_X9_drift; rw [hin, if_neg h, hpa, if_pos h2], rfl, hI⟩
  have e2 : d.1 3 2 = nI (nk (d.1 79)) := hR.sz hG
  rcases Nat.eq_zero_or_pos (nk (d.1 79)) with h0 | h0
  · refine ⟨(-2, d), (-2, d), ?_, ?_, rfl, hI⟩
    · unfold f_X8_drift
      rw [if_neg h, if_neg h2, X_world, Option.bind_some, W_cls isW3, if_pos rfl, e2, h0, if_pos (show nI 0 = 0 from rfl)]
    · unfold f_X9_drift
      rw [hin, if_neg h, hpa, if_neg h2, M_st, Option.bind_some, mo37, if_pos rfl, t37, hG.1.1, h0, if_pos (show nI 0 = 0 from rfl)]
  · obtain ⟨n, hn1, hn, rfl⟩ := (wi_iff (a := 1) (b := 60) (by omega) (by omega)).mp h
    obtain ⟨d0, e0, hR0, hB0⟩ := x_cp hI
    obtain ⟨d1, hB1, e1⟩ := x_drift_L (n := n) (k := nk (d.1 79)) (v3 := a3) (by omega) h0 FU 0 a1 d0 (d.1 79) (by omega) (by unfold FU; omega) hG rfl hR0
    have hB : Bw 18 d d1 := hB0.tr hB1
    have hE : Eq60 ((sd d1).1 80) (d.1 79) := by rw [← bw79 hB]; exact sd_80
    obtain ⟨D, hB2, e3⟩ := m_drift_L (n := n) (v3 := a3) (by omega) hG.1.1 h0 FU 0 a1 (sd d1) (d.1 79) (by omega) (by unfold FU; omega) hG rfl hE (by rw [sd_ne (by omega)]; exact bw79 hB)
    refine ⟨(sumK (if a3 = 0 then 3 else 4) (drF n a1 (d.1 79)), d1), (sumK (if a3 = 0 then 3 else 4) (drF n a1 (d.1 79)), D), ?_, ?_, rfl, hI.q hB (sd_bn.tr hB2)⟩
    · unfold f_X8_drift
      rw [if_neg h, if_neg h2, X_world, Option.bind_some, W_cls isW3, if_pos rfl, e2, if_neg (nI_ne0 h0 (by omega)), X_trial, Option.bind_some, W_cls isW18, if_pos rfl, e0, Option.bind_some]
      exact e1
    · show f_X9_drift L0 d1 78 a1 (nI n) a3 = _
      unfold f_X9_drift
      rw [hin, if_neg h, hpa, if_neg h2, M_st, Option.bind_some, mo37, if_pos rfl, t37, bw79 hB, hG.1.1, if_neg (nI_ne0 h0 (by omega)), M_cls, if_pos rfl, sd_st, Option.bind_some]
      exact e3
