theorem i32_toInt_ofNat {n : Nat} (h : n < 2 ^ 31) : (Int32.ofNat n).toInt = (n : Int) := nI_toInt h
theorem hd_gt {L i : Nat} (hL : L ≤ 384) (hi : i ≤ 384) : Int32.ofNat L - 6 < nI i ↔ L < i + 6 := by
  have h1 : (Int32.ofNat L).toInt = (L : Int) := nI_toInt (by omega)
  have h2 : (nI i).toInt = (i : Int) := nI_toInt (by omega)
  have h3 : (6 : Int32).toInt = 6 := by decide
  have h4 : (Int32.ofNat L - 6).toInt = (L : Int) - 6 := by
    rw [Int32.toInt_sub, h1, h3]
    apply Int.bmod_eq_of_le <;> omega
  rw [Int32.lt_iff_toInt_lt, h4, h2]
  omega
theorem hd_in {L i k : Nat} (hL : L ≤ 384) (hi : i + 6 ≤ L) (hk : k < 6) : vp_in (nI i + nI k) L := by
  rw [nI_add]
  exact vp_in_nI (by omega) (by omega)
theorem TB_lw {w : Cond} (h : w ∈ TB) : w ∈ lw_tbl := (List.mem_filter.mp h).1
set_option maxHeartbeats 8000000 in
set_option maxRecDepth 100000 in
theorem law_loop {p : Program} {l : Launch} {e : Env} {s : State} {m : MethodId} {below : List Frame} {meth : Method} {c : Code} {Γ : Cx} {b L : Nat} {xs : Nat → Int32} (hL : L ≤ 384) (C0 : Ct Γ p s m #[Value.ref b] c code 4 "SeasonBoundLaw") (hr : meth.sig.returnType = ret) (hlocks : meth.locks = false) (hX : va_X b L xs s s.heap) (hbl : b < s.heap.size) (hb0 : Γ.2.2.1.1 = s.heap.size) :
    ∀ (n i : Nat) (x3 : Int32) (d : Dt), L + 6 < i + 6 * n → i ≤ L → x3 = nI i → Inv d → ∀ (H : Heap) (locs : List Loc) (ls : Array Slot), Hs Γ L0 d s H locs → lv_has ls 4 [(0, .ref b), (1, .ref (ad Γ.2.2.1 0)), (2, .ref (ad Γ.2.2.1 78)), (3, .int x3)] → W p l e room_1 s m #[Value.ref b] below meth c H locs 90 3089 (lw_Z below #[Value.ref b] s) (F0 m 18 ls []) := by
  obtain ⟨hx, hb, hml, hown, hts, hK⟩ := id C0
  have hbA : ¬ AP Γ b := by unfold AP; omega
  intro n
  induction n with
  | zero =>
    intro i x3 d h1 h2
    omega
  | succ n ih =>
    intro i x3 d hfu hi ex hI H locs ls hH hl
    refine lv_iload_n hx hb dL_law_18 rfl (lv_at hl 3 rfl) ?_
    refine lv_aload_n hx hb dL_law_19 rfl (lv_at hl 0 rfl) ?_
    refine va_slen hx hb hX hbl hbA hH.2 dL_law_20 ?_
    refine lv_bipush (v := (6 : Int32)) hx hb dL_law_21 (by decide) ?_
    refine lv_isub hx hb dL_law_23 ?_
    refine lv_icmp_gt (tgt := 1479) hx hb dL_law_24 (by decide) (fun c1 => ?_) (fun c1 => ?_)
    · refine lv_iconst (v := (1 : Int32)) hx hb dL_law_1479 (by decide) ?_
      refine va_forget (fun q hq => ?_) ?_
      · have := hH.2.2.2 q hq
        unfold AP at this
        omega
      refine W.widen (k := 600000) (n := 7302249) (by decide) (by decide) ?_
      exact lw_ret hx hb hr hlocks dL_law_1480
    · have hle : i + 6 ≤ L := by
        rw [ex, hd_gt hL (by omega)] at c1
        omega
      have hin : ∀ k : Nat, k < 6 → vp_in (x3 + nI k) L := fun k hk => by rw [ex]; exact hd_in hL hle hk
      have h0 : vp_in x3 L := by
        have := vp_in_nI (n := i) (N := L) (by omega) (by omega)
        rw [ex]; exact this
      have kk : ∀ (d : Dt) (H : Heap) (locs : List Loc), Inv d → Hs Γ L0 d s H locs → W p l e room_1 s m #[Value.ref b] below meth c H locs 90 3089 (lw_Z below #[Value.ref b] s) (F0 m 1473 ls []) := by
        intro d H locs hI hH
        refine lv_iinc (v := x3 + 6) (lv' := [(3, .int (x3 + 6)), (0, .ref b), (1, .ref (ad Γ.2.2.1 0)), (2, .ref (ad Γ.2.2.1 78))]) hx hb dL_law_1473 hl (k := 3) rfl (congrArg (fun w => x3 + w) (by decide)) (by decide) rfl (fun ls hl => ?_)
        refine lv_goto (tgt := 18) hx hb dL_law_1476 (by decide) ?_
        exact ih (i + 6) (x3 + 6) d (by omega) hle (by rw [ex]; exact nI_add i 6) hI _ _ _ hH (lv_sub hl [1, 2, 3, 0] rfl)
      refine lv_aload_n hx hb dL_law_27 rfl (lv_at hl 0 rfl) ?_
      refine lv_iload_n hx hb dL_law_28 rfl (lv_at hl 3 rfl) ?_
      refine va_sld hx hb hX hbl hbA hH.2 h0 dL_law_29 ?_
      refine lv_bipush (v := (63 : Int32)) hx hb dL_law_30 (by decide) ?_
      refine lv_iand hx hb dL_law_32 ?_
      refine lv_topi (fun w ew => ?_)
      by_cases c2 : w = (0 : Int32)
      · refine lv_tableIn (off := 171) (tgt := 204) hx hb dL_law_33 (by rw [c2]; decide) (by rw [c2]; decide) (by rw [c2]; rfl) (by decide) ?_
        exact lc_feed C0 hX hbl hbA hin hI _ _ _ hH hl kk
      by_cases c3 : w = (1 : Int32)
      · refine lv_tableIn (off := 194) (tgt := 227) hx hb dL_law_33 (by rw [c3]; decide) (by rw [c3]; decide) (by rw [c3]; rfl) (by decide) ?_
        exact lc_end C0 hX hbl hbA hin hI _ _ _ hH hl kk
      by_cases c4 : w = (2 : Int32)
      · refine lv_tableIn (off := 217) (tgt := 250) hx hb dL_law_33 (by rw [c4]; decide) (by rw [c4]; decide) (by rw [c4]; rfl) (by decide) ?_
        exact lc_text C0 hX hbl hbA hin hI _ _ _ hH hl kk
      by_cases c5 : w = (3 : Int32)
      · refine lv_tableIn (off := 230) (tgt := 263) hx hb dL_law_33 (by rw [c5]; decide) (by rw [c5]; decide) (by rw [c5]; rfl) (by decide) ?_
        exact lc_fault C0 hX hbl hbA hin hI _ _ _ hH hl kk
      by_cases c6 : w = (4 : Int32)
      · refine lv_tableIn (off := 243) (tgt := 276) hx hb dL_law_33 (by rw [c6]; decide) (by rw [c6]; decide) (by rw [c6]; rfl) (by decide) ?_
        exact lc_rule C0 hX hbl hbA hin hI _ _ _ hH hl kk
      by_cases c7 : w = (5 : Int32)
      · refine lv_tableIn (off := 266) (tgt := 299) hx hb dL_law_33 (by rw [c7]; decide) (by rw [c7]; decide) (by rw [c7]; rfl) (by decide) ?_
        exact lc_child C0 hX hbl hbA hin hI _ _ _ hH hl kk
      by_cases c8 : w = (6 : Int32)
      · refine lv_tableIn (off := 299) (tgt := 332) hx hb dL_law_33 (by rw [c8]; decide) (by rw [c8]; decide) (by rw [c8]; rfl) (by decide) ?_
        exact lc_season C0 hX hbl hbA hin hI _ _ _ hH hl kk
      by_cases c9 : w = (7 : Int32)
      · refine lv_tableIn (off := 332) (tgt := 365) hx hb dL_law_33 (by rw [c9]; decide) (by rw [c9]; decide) (by rw [c9]; rfl) (by decide) ?_
        exact lc_alter C0 hX hbl hbA hin hI _ _ _ hH hl kk
      by_cases c10 : w = (8 : Int32)
      · refine lv_tableIn (off := 375) (tgt := 408) hx hb dL_law_33 (by rw [c10]; decide) (by rw [c10]; decide) (by rw [c10]; rfl) (by decide) ?_
        exact lc_set C0 hX hbl hbA hin hI _ _ _ hH hl kk
      by_cases c11 : w = (9 : Int32)
      · refine lv_tableIn (off := 418) (tgt := 451) hx hb dL_law_33 (by rw [c11]; decide) (by rw [c11]; decide) (by rw [c11]; rfl) (by decide) ?_
        exact lc_bind C0 hX hbl hbA hin hI _ _ _ hH hl kk
      by_cases c12 : w = (10 : Int32)
      · refine lv_tableIn (off := 461) (tgt := 494) hx hb dL_law_33 (by rw [c12]; decide) (by rw [c12]; decide) (by rw [c12]; rfl) (by decide) ?_
        exact lc_free C0 hX hbl hbA hin hI _ _ _ hH hl kk
      by_cases c13 : w = (11 : Int32)
      · refine lv_tableIn (off := 484) (tgt := 517) hx hb dL_law_33 (by rw [c13]; decide) (by rw [c13]; decide) (by rw [c13]; rfl) (by decide) ?_
        exact lc_born C0 hX hbl hbA hin hI _ _ _ hH hl kk
      by_cases c14 : w = (12 : Int32)
      · refine lv_tableIn (off := 507) (tgt := 540) hx hb dL_law_33 (by rw [c14]; decide) (by rw [c14]; decide) (by rw [c14]; rfl) (by decide) ?_
        exact lc_weeks C0 hX hbl hbA hin hI _ _ _ hH hl kk
      by_cases c15 : w = (13 : Int32)
      · refine lv_tableIn (off := 530) (tgt := 563) hx hb dL_law_33 (by rw [c15]; decide) (by rw [c15]; decide) (by rw [c15]; rfl) (by decide) ?_
        exact lc_runs C0 hX hbl hbA hin hI _ _ _ hH hl kk
      by_cases c16 : w = (14 : Int32)
      · refine lv_tableIn (off := 563) (tgt := 596) hx hb dL_law_33 (by rw [c16]; decide) (by rw [c16]; decide) (by rw [c16]; rfl) (by decide) ?_
        exact lc_ahead C0 hX hbl hbA hin hI _ _ _ hH hl kk
      by_cases c17 : w = (15 : Int32)
      · refine lv_tableIn (off := 606) (tgt := 639) hx hb dL_law_33 (by rw [c17]; decide) (by rw [c17]; decide) (by rw [c17]; rfl) (by decide) ?_
        exact lc_home C0 hX hbl hbA hin hI _ _ _ hH hl kk
      by_cases c18 : w = (16 : Int32)
      · refine lv_tableIn (off := 629) (tgt := 662) hx hb dL_law_33 (by rw [c18]; decide) (by rw [c18]; decide) (by rw [c18]; rfl) (by decide) ?_
        exact lc_meet C0 hX hbl hbA hin hI _ _ _ hH hl kk
      by_cases c19 : w = (17 : Int32)
      · refine lv_tableIn (off := 662) (tgt := 695) hx hb dL_law_33 (by rw [c19]; decide) (by rw [c19]; decide) (by rw [c19]; rfl) (by decide) ?_
        exact lc_place C0 hX hbl hbA hin hI _ _ _ hH hl kk
      by_cases c20 : w = (18 : Int32)
      · refine lv_tableIn (off := 705) (tgt := 738) hx hb dL_law_33 (by rw [c20]; decide) (by rw [c20]; decide) (by rw [c20]; rfl) (by decide) ?_
        exact lc_swap C0 hX hbl hbA hin hI _ _ _ hH hl kk
      by_cases c21 : w = (19 : Int32)
      · refine lv_tableIn (off := 738) (tgt := 771) hx hb dL_law_33 (by rw [c21]; decide) (by rw [c21]; decide) (by rw [c21]; rfl) (by decide) ?_
        exact lc_span C0 hX hbl hbA hin hI _ _ _ hH hl kk
      by_cases c22 : w = (20 : Int32)
      · refine lv_tableIn (off := 781) (tgt := 814) hx hb dL_law_33 (by rw [c22]; decide) (by rw [c22]; decide) (by rw [c22]; rfl) (by decide) ?_
        exact lc_gift C0 hX hbl hbA hin hI _ _ _ hH hl kk
      by_cases c23 : w = (21 : Int32)
      · refine lv_tableIn (off := 814) (tgt := 847) hx hb dL_law_33 (by rw [c23]; decide) (by rw [c23]; decide) (by rw [c23]; rfl) (by decide) ?_
        exact lc_term C0 hX hbl hbA hin hI _ _ _ hH hl kk
      by_cases c24 : w = (22 : Int32)
      · refine lv_tableIn (off := 857) (tgt := 890) hx hb dL_law_33 (by rw [c24]; decide) (by rw [c24]; decide) (by rw [c24]; rfl) (by decide) ?_
        exact lc_kind C0 hX hbl hbA hin hI _ _ _ hH hl kk
      by_cases c25 : w = (23 : Int32)
      · refine lv_tableIn (off := 900) (tgt := 933) hx hb dL_law_33 (by rw [c25]; decide) (by rw [c25]; decide) (by rw [c25]; rfl) (by decide) ?_
        exact lc_luck C0 hX hbl hbA hin hI _ _ _ hH hl kk
      by_cases c26 : w = (24 : Int32)
      · refine lv_tableIn (off := 964) (tgt := 997) hx hb dL_law_33 (by rw [c26]; decide) (by rw [c26]; decide) (by rw [c26]; rfl) (by decide) ?_
        exact lc_mean C0 hX hbl hbA hin hI _ _ _ hH hl kk
      by_cases c27 : w = (25 : Int32)
      · refine lv_tableIn (off := 1008) (tgt := 1041) hx hb dL_law_33 (by rw [c27]; decide) (by rw [c27]; decide) (by rw [c27]; rfl) (by decide) ?_
        exact lc_see C0 hX hbl hbA hin hI _ _ _ hH hl kk
      by_cases c28 : w = (26 : Int32)
      · refine lv_tableIn (off := 1051) (tgt := 1084) hx hb dL_law_33 (by rw [c28]; decide) (by rw [c28]; decide) (by rw [c28]; rfl) (by decide) ?_
        exact lc_forget C0 hX hbl hbA hin hI _ _ _ hH hl kk
      by_cases c29 : w = (27 : Int32)
      · refine lv_tableIn (off := 1074) (tgt := 1107) hx hb dL_law_33 (by rw [c29]; decide) (by rw [c29]; decide) (by rw [c29]; rfl) (by decide) ?_
        exact lc_kinds C0 hX hbl hbA hin hI _ _ _ hH hl kk
      by_cases c30 : w = (28 : Int32)
      · refine lv_tableIn (off := 1097) (tgt := 1130) hx hb dL_law_33 (by rw [c30]; decide) (by rw [c30]; decide) (by rw [c30]; rfl) (by decide) ?_
        exact lc_seasons C0 hX hbl hbA hin hI _ _ _ hH hl kk
      by_cases c31 : w = (29 : Int32)
      · refine lv_tableIn (off := 1120) (tgt := 1153) hx hb dL_law_33 (by rw [c31]; decide) (by rw [c31]; decide) (by rw [c31]; rfl) (by decide) ?_
        exact lc_gifts C0 hX hbl hbA hin hI _ _ _ hH hl kk
      by_cases c32 : w = (30 : Int32)
      · refine lv_tableIn (off := 1143) (tgt := 1176) hx hb dL_law_33 (by rw [c32]; decide) (by rw [c32]; decide) (by rw [c32]; rfl) (by decide) ?_
        exact lc_ask C0 hX hbl hbA hin hI _ _ _ hH hl kk
      by_cases c33 : w = (31 : Int32)
      · refine lv_tableIn (off := 1176) (tgt := 1209) hx hb dL_law_33 (by rw [c33]; decide) (by rw [c33]; decide) (by rw [c33]; rfl) (by decide) ?_
        exact lc_drift C0 hX hbl hbA hin hI _ _ _ hH hl kk
      by_cases c34 : w = (32 : Int32)
      · refine lv_tableIn (off := 1219) (tgt := 1252) hx hb dL_law_33 (by rw [c34]; decide) (by rw [c34]; decide) (by rw [c34]; rfl) (by decide) ?_
        exact lc_keep C0 hX hbl hbA hin hI _ _ _ hH hl kk
      by_cases c35 : w = (33 : Int32)
      · refine lv_tableIn (off := 1242) (tgt := 1275) hx hb dL_law_33 (by rw [c35]; decide) (by rw [c35]; decide) (by rw [c35]; rfl) (by decide) ?_
        exact lc_back C0 hX hbl hbA hin hI _ _ _ hH hl kk
      by_cases c36 : w = (34 : Int32)
      · refine lv_tableIn (off := 1265) (tgt := 1298) hx hb dL_law_33 (by rw [c36]; decide) (by rw [c36]; decide) (by rw [c36]; rfl) (by decide) ?_
        exact lc_sheet C0 hX hbl hbA hin hI _ _ _ hH hl kk
      by_cases c37 : w = (35 : Int32)
      · refine lv_tableIn (off := 1308) (tgt := 1341) hx hb dL_law_33 (by rw [c37]; decide) (by rw [c37]; decide) (by rw [c37]; rfl) (by decide) ?_
        exact lc_lay C0 hX hbl hbA hin hI _ _ _ hH hl kk
      by_cases c38 : w = (36 : Int32)
      · refine lv_tableIn (off := 1351) (tgt := 1384) hx hb dL_law_33 (by rw [c38]; decide) (by rw [c38]; decide) (by rw [c38]; rfl) (by decide) ?_
        exact lc_read C0 hX hbl hbA hin hI _ _ _ hH hl kk
      by_cases c39 : w = (37 : Int32)
      · refine lv_tableIn (off := 1404) (tgt := 1437) hx hb dL_law_33 (by rw [c39]; decide) (by rw [c39]; decide) (by rw [c39]; rfl) (by decide) ?_
        exact lc_torn C0 hX hbl hbA hin hI _ _ _ hH hl kk
      by_cases c40 : w = (38 : Int32)
      · refine lv_tableIn (off := 1417) (tgt := 1450) hx hb dL_law_33 (by rw [c40]; decide) (by rw [c40]; decide) (by rw [c40]; rfl) (by decide) ?_
        exact lc_count C0 hX hbl hbA hin hI _ _ _ hH hl kk
      refine lv_tableOut (tgt := 1473) hx hb dL_law_33 (by have q0 := lv_neT c2 (a := 0) (by decide); have q1 := lv_neT c3 (a := 1) (by decide); have q2 := lv_neT c4 (a := 2) (by decide); have q3 := lv_neT c5 (a := 3) (by decide); have q4 := lv_neT c6 (a := 4) (by decide); have q5 := lv_neT c7 (a := 5) (by decide); have q6 := lv_neT c8 (a := 6) (by decide); have q7 := lv_neT c9 (a := 7) (by decide); have q8 := lv_neT c10 (a := 8) (by decide); have q9 := lv_neT c11 (a := 9) (by decide); have q10 := lv_neT c12 (a := 10) (by decide); have q11 := lv_neT c13 (a := 11) (by decide); have q12 := lv_neT c14 (a := 12) (by decide); have q13 := lv_neT c15 (a := 13) (by decide); have q14 := lv_neT c16 (a := 14) (by decide); have q15 := lv_neT c17 (a := 15) (by decide); have q16 := lv_neT c18 (a := 16) (by decide); have q17 := lv_neT c19 (a := 17) (by decide); have q18 := lv_neT c20 (a := 18) (by decide); have q19 := lv_neT c21 (a := 19) (by decide); have q20 := lv_neT c22 (a := 20) (by decide); have q21 := lv_neT c23 (a := 21) (by decide); have q22 := lv_neT c24 (a := 22) (by decide); have q23 := lv_neT c25 (a := 23) (by decide); have q24 := lv_neT c26 (a := 24) (by decide); have q25 := lv_neT c27 (a := 25) (by decide); have q26 := lv_neT c28 (a := 26) (by decide); have q27 := lv_neT c29 (a := 27) (by decide); have q28 := lv_neT c30 (a := 28) (by decide); have q29 := lv_neT c31 (a := 29) (by decide); have q30 := lv_neT c32 (a := 30) (by decide); have q31 := lv_neT c33 (a := 31) (by decide); have q32 := lv_neT c34 (a := 32) (by decide); have q33 := lv_neT c35 (a := 33) (by decide); have q34 := lv_neT c36 (a := 34) (by decide); have q35 := lv_neT c37 (a := 35) (by decide); have q36 := lv_neT c38 (a := 36) (by decide); have q37 := lv_neT c39 (a := 37) (by decide); have q38 := lv_neT c40 (a := 38) (by decide); omega) (by decide) ?_
      exact kk d _ _ hI hH
