/-! ===== weeks, runs, ahead, home, meet ===== -/
def Bn (d d' : Dt) : Prop := (∀ a, a ≠ 80 → d'.1 a = d.1 a) ∧ d'.2 = d.2
theorem Bn.rf {d : Dt} : Bn d d := ⟨fun _ _ => rfl, rfl⟩
theorem Bn.tr {d d' d'' : Dt} (h : Bn d d') (h' : Bn d' d'') : Bn d d'' := ⟨fun a ha => (h'.1 a ha).trans (h.1 a ha), h'.2.trans h.2⟩
theorem Bn.sr {d : Dt} {r : Rw} : Bn d (sR d 80 r) := ⟨fun a ha => sR_ne ha, rfl⟩
theorem Bn.pi {d : Dt} {k : Nat} {v : Int32} : Bn d (pI d 80 k v) := ⟨fun a ha => pI_ne ha, rfl⟩
theorem Bn.sc {d d' : Dt} (h : Bn d d') : Sc d d' := by
  have h78 : d'.1 78 = d.1 78 := h.1 78 (by omega)
  exact ⟨fun a ha => h.1 a (fun e => ha (e ▸ scr80)), by rw [h78], by rw [h78], by rw [h78]⟩
theorem sd_bn {d : Dt} : Bn d (sd d) := Bn.sr
section MQ
variable {d : Dt} {r : Rw}
theorem m_wk (he : Eq60 (d.1 80) r) (hG : Good r) (off : Int32) : ∃ d', f_X9_weekGoes L0 d 78 off = some d' ∧ Eq60 (d'.1 80) (wk off r) ∧ Bn d d' :=
  ⟨_, m_weekGoes (hG.eq he.sy).wok, by rw [sR_self]; exact wk_eq60 he (hG.eq he.sy).wok, Bn.sr⟩
theorem m_wkN (he : Eq60 (d.1 80) r) (hG : Good r) {n : Nat} (hn : n < 900) : ∃ d', f_X9_weeksGo L0 d 78 (nI n) = some d' ∧ Eq60 (d'.1 80) (wkN n r) ∧ Bn d d' :=
  ⟨_, m_weeksGo hn (hG.eq he.sy), by rw [sR_self]; exact wkN_eq60 he (hG.eq he.sy) n, Bn.sr⟩
theorem m_liv (he : Eq60 (d.1 80) r) (hG : Good r) : f_X9_livingNow L0 d 78 = some (livB r) := by
  have hG' := hG.eq he.sy
  rw [m_livingNow hG'.1.1 hG'.1.2, livB_eq60 he hG'.1.2]
theorem m_fre (he : Eq60 (d.1 80) r) (hG : Good r) : f_X9_freeNow L0 d 78 = some (freB r) := by
  have hG' := hG.eq he.sy
  rw [m_freeNow hG'.1.1 hG'.1.2, freB_eq60 he hG'.1.2]
theorem m_sum (he : Eq60 (d.1 80) r) (hG : Good r) {k : Nat} (hk : k < 5) : f_X9_sumOf L0 d 78 (nI k) = some (sumK k r) := by
  have hG' := hG.eq he.sy
  rw [m_sumOf hG'.1.1 hG'.1.2 hk, sumK_eq60 he hG'.1.2 hk]
theorem m_ofr (he : Eq60 (d.1 80) r) {c k : Nat} (hc : c < 5) (hk : k < 5) : f_X9_of L0 d 78 (nI c) (nI k) = some (r (12 + 5 * c + k)) := by
  rw [m_of hc hk, he _ (by omega)]
theorem m_isF (he : Eq60 (d.1 80) r) {c : Nat} (hc : c < 5) : f_X9_isFree L0 d 78 (nI c) = some (if r (12 + 5 * c + 1) = -4 then 1 else 0) := by
  rw [m_isFree hc, he _ (by omega)]
theorem m_lvs (he : Eq60 (d.1 80) r) {c : Nat} (hc : c < 5) : f_X9_lives L0 d 78 (nI c) = some (if liv r c then 1 else 0) := by
  rw [m_lives hc]
  congr 1
  by_cases h : liv (d.1 80) c
  · rw [if_pos h, if_pos ((liv_eq60 he hc).mp h)]
  · rw [if_neg h, if_neg (fun q => h ((liv_eq60 he hc).mpr q))]
theorem m_skB (he : Eq60 (d.1 80) r) (hG : Good r) {n : Nat} (hn : n < 900) : ∃ d', f_X9_skillsBehind L0 d 78 (nI n) = some (sumK 3 (wkN n r), d') ∧ Eq60 (d'.1 80) (wkN n r) ∧ Bn d d' := by
  obtain ⟨d', e1, h1, h2⟩ := m_wkN he hG hn
  refine ⟨d', ?_, h1, h2⟩
  unfold f_X9_skillsBehind
  rw [M_cls, if_pos rfl, e1, Option.bind_some, show f_X9_sumOf L0 d' 78 (3 : Int32) = _ from m_sum (k := 3) h1 (hG.wkN n) (by omega), Option.bind_some]
end MQ
theorem x_cp {d : Dt} (hI : Inv d) : ∃ d', f_X7_copy L0 d 18 3 = some d' ∧ RW d' 18 (d.1 79) ∧ Bw 18 d d' := x_copy isW3 isW18 (by omega) hI.2.1 hI.1
/-- behind a question: only scratch differs -/
theorem Inv.q {d d1 d2 : Dt} (h : Inv d) (h1 : Bw 18 d d1) (h2 : Bn d1 d2) : Inv d2 := (h.mv (Sc.bw h1)).mv h2.sc
theorem bw79 {d d1 : Dt} (h : Bw 18 d d1) : d1.1 79 = d.1 79 := h.1 79 (by omega)
theorem st_weeks {d : Dt} (hI : Inv d) (a1 : Int32) : ∃ (z1 : Int32 × Dt) (z2 : Int32 × Dt), f_X8_weeks L0 d 0 a1 = some z1 ∧ f_X9_weeks L0 z1.2 78 a1 = some z2 ∧ z1.1 = z2.1 ∧ Inv z2.2 := by
  obtain ⟨hR, hG, -⟩ := id hI
  have h5 := hG.1.2
  have hin : f_X9_in a1.toInt64 (0 : Int64) (30 : Int64) = f_X8_within a1 0 30 := in_w0 a1 30 (by omega) 30 rfl
  by_cases h : f_X8_within a1 0 30 = 0
  · exact ⟨(-1, d), (-1, d), by unfold f_X8_weeks; rw [if_pos h], by unfold f_X9_weeks; rw [hin, if_pos h], rfl, hI⟩
  · obtain ⟨n, hn, rfl⟩ := (wi0_iff 30 (by omega)).mp h
    by_cases hf : d.1 79 40 + nI n ≤ 999
    · obtain ⟨d1, e1, hR1, hB1⟩ := x_pass (n := n) isW3 (by omega) hG hR
      have hG1 := hG.wkN n
      have e79 : d1.1 79 = d.1 79 := hB1.1 79 (by omega)
      obtain ⟨d2, e2, h2, hB2⟩ := m_skB (d := sd d1) (r := d.1 79) (n := n) (by rw [← e79]; exact sd_80) hG (by omega)
      have b79 : d2.1 79 = d.1 79 := by rw [hB2.1 79 (by omega), sd_ne (by omega), e79]
      refine ⟨(sumK 3 (wkN n (d.1 79)) - sumK 3 (d.1 79), d1), (sumK 3 (wkN n (d.1 79)) - sumK 3 (d.1 79), sR d2 79 (cp60 (d2.1 80) (d2.1 79))), ?_, ?_, rfl, ?_⟩
      · unfold f_X8_weeks
        rw [if_neg h, X_world, Option.bind_some, W_cls isW3, if_pos rfl, hR.1.2.2.2.1, if_pos hf, x_skillSum isW3 hR hG, Option.bind_some, e1, Option.bind_some, x_skillSum isW3 hR1 hG1, Option.bind_some]
      · unfold f_X9_weeks
        rw [hin, if_neg h, M_st, Option.bind_some, mo40, if_pos rfl, t40, e79, if_pos hf, M_cls, if_pos rfl, sd_st, Option.bind_some, show f_X9_sumOf L0 (sd d1) 78 (3 : Int32) = _ from m_sum (k := 3) (by rw [← e79]; exact sd_80) hG (by omega), Option.bind_some, e2, Option.bind_some, m_settles, Option.bind_some]
      · have hq : Eq60 (cp60 (d2.1 80) (d2.1 79)) (wkN n (d.1 79)) := cp60_eq.tr h2
        have hn5 : nk (wkN n (d.1 79)) ≤ 5 := hG1.1.2
        refine hI.upd (fun a ha hn h80 => ?_) (fun j hj => ?_) ?_ ?_
        · rw [sR_ne hn, hB2.1 a h80, sd_ne h80, hB1.1 a (by omega)]
        · rw [sR_self]
          unfold cp60
          rw [if_neg (by omega), b79]
        · rw [sR_self]
          refine RW.eq hq.sy hn5 hG1.2.2.2.2.1.2 (hR1.mv (fun a h7 h8 => ?_) hn5)
          rw [sR_ne (by omega), hB2.1 a (by omega), sd_ne (by omega)]
        · rw [sR_self]
          exact hG1.eq hq.sy
    · refine ⟨(-3, d), (-3, d), ?_, ?_, rfl, hI⟩
      · unfold f_X8_weeks
        rw [if_neg h, X_world, Option.bind_some, W_cls isW3, if_pos rfl, hR.1.2.2.2.1, if_neg hf]
      · unfold f_X9_weeks
        rw [hin, if_neg h, M_st, Option.bind_some, mo40, if_pos rfl, t40, if_neg hf]
