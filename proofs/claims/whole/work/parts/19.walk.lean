theorem dX9_kinds_0 : decode cX9_kinds 0 = .ok (.aload_n 0, 1) := by decide +kernel
theorem dX9_kinds_1 : decode cX9_kinds 1 = .ok (.iload_n 1, 1) := by decide +kernel
theorem dX9_kinds_2 : decode cX9_kinds 2 = .ok (.invokevirtual 180, 3) := by decide +kernel
theorem dX9_kinds_5 : decode cX9_kinds 5 = .ok (.ifCond .eq 19, 3) := by decide +kernel
theorem dX9_kinds_8 : decode cX9_kinds 8 = .ok (.aload_n 0, 1) := by decide +kernel
theorem dX9_kinds_9 : decode cX9_kinds 9 = .ok (.bipush 12, 2) := by decide +kernel
theorem dX9_kinds_11 : decode cX9_kinds 11 = .ok (.iconst 5, 1) := by decide +kernel
theorem dX9_kinds_12 : decode cX9_kinds 12 = .ok (.iload_n 1, 1) := by decide +kernel
theorem dX9_kinds_13 : decode cX9_kinds 13 = .ok (.imul, 1) := by decide +kernel
theorem dX9_kinds_14 : decode cX9_kinds 14 = .ok (.iadd, 1) := by decide +kernel
theorem dX9_kinds_15 : decode cX9_kinds 15 = .ok (.iconst 0, 1) := by decide +kernel
theorem dX9_kinds_16 : decode cX9_kinds 16 = .ok (.iadd, 1) := by decide +kernel
theorem dX9_kinds_17 : decode cX9_kinds 17 = .ok (.iconst 3, 1) := by decide +kernel
theorem dX9_kinds_18 : decode cX9_kinds 18 = .ok (.invokevirtual 272, 3) := by decide +kernel
theorem dX9_kinds_21 : decode cX9_kinds 21 = .ok (.goto 4, 3) := by decide +kernel
theorem dX9_kinds_24 : decode cX9_kinds 24 = .ok (.iconst (-1), 1) := by decide +kernel
theorem dX9_kinds_25 : decode cX9_kinds 25 = .ok (.ireturn, 1) := by decide +kernel
def f_X9_kinds (Λ : List Ly) (d : Dt) (p0 : Nat) (v1 : Int32) : Option (Int32 × Dt) := if clsAt Λ p0 = some 9 then (Option.bind (f_X9_isChild Λ d p0 v1) fun z2 => if z2 = 0 then (some ((-1 : Int32), d)) else (Option.bind (f_X9_which Λ d p0 (((12 : Int32) + ((5 : Int32) * v1)) + (0 : Int32)) (3 : Int32)) fun z4 => some (z4.1, z4.2))) else none
set_option maxHeartbeats 4000000 in
set_option maxRecDepth 100000 in
theorem c_X9_kinds (Γ : Cx) (l : Launch) (Λ : List Ly) (d : Dt) (p0 : Nat) (v1 : Int32) (z : Int32 × Dt) (hf : f_X9_kinds Λ d p0 v1 = some z) : Cn Γ l yX9_kinds cX9_kinds 2 (some FieldType.int) 7 158 [.ref (Γ.2.2.1 + p0), .int v1] Λ d (some (.int z.1)) z.2 := by
  refine Cn.of (own := "SeasonBoundModel") (by decide +kernel) rfl (Nat.le_of_ble_eq_true rfl) ?_
  intro p e s m below meth c C0 hr hlocks hH ls hl
  have hl : lv_has ls 2 [(0, .ref (Γ.2.2.1 + p0)), (1, .int v1)] := hl
  obtain ⟨hx, hb, hml, hown, hts, hK⟩ := id C0
  unfold f_X9_kinds at hf
  refine lv_aload_n hx hb dX9_kinds_0 rfl (lv_at hl 0 rfl) ?_
  refine lv_iload_n hx hb dX9_kinds_1 rfl (lv_at hl 1 rfl) ?_
  obtain ⟨g1, hf⟩ := gd hf
  obtain ⟨z2, h2, hf⟩ := ob hf
  refine r_callVi (rest := []) C0 hH (c_X9_isChild Γ l Λ d p0 v1 z2 h2) cv_X9_180 g1 (by decide) rfl hl.1 rfl (Nat.le_of_ble_eq_true rfl) dX9_kinds_2 (by decide) (fun H locs hH => ?_)
  refine lv_if_eq (tgt := 24) hx hb dX9_kinds_5 (by decide) (fun c3 => ?_) (fun c3 => ?_)
  · replace hf := it hf c3
    refine lv_iconst (v := (-1 : Int32)) hx hb dX9_kinds_24 (by decide) ?_
    obtain rfl := Option.some.inj hf
    exact r_iret (d' := d) C0 hr hlocks hH rfl dX9_kinds_25
  · replace hf := ie hf c3
    refine lv_aload_n hx hb dX9_kinds_8 rfl (lv_at hl 0 rfl) ?_
    refine lv_bipush (v := (12 : Int32)) hx hb dX9_kinds_9 (by decide) ?_
    refine lv_iconst (v := (5 : Int32)) hx hb dX9_kinds_11 (by decide) ?_
    refine lv_iload_n hx hb dX9_kinds_12 rfl (lv_at hl 1 rfl) ?_
    refine lv_imul hx hb dX9_kinds_13 ?_
    refine lv_iadd hx hb dX9_kinds_14 ?_
    refine lv_iconst (v := (0 : Int32)) hx hb dX9_kinds_15 (by decide) ?_
    refine lv_iadd hx hb dX9_kinds_16 ?_
    refine lv_iconst (v := (3 : Int32)) hx hb dX9_kinds_17 (by decide) ?_
    obtain ⟨z4, h4, hf⟩ := ob hf
    refine r_callVi (rest := []) C0 hH (c_X9_which Γ l Λ d p0 (((12 : Int32) + ((5 : Int32) * v1)) + (0 : Int32)) (3 : Int32) z4 h4) cv_X9_272 g1 (by decide) rfl hl.1 rfl (Nat.le_of_ble_eq_true rfl) dX9_kinds_18 (by decide) (fun H locs hH => ?_)
    refine lv_goto (tgt := 25) hx hb dX9_kinds_21 (by decide) ?_
    obtain rfl := Option.some.inj hf
    exact r_iret (d' := d) C0 hr hlocks hH rfl dX9_kinds_25
theorem dX9_seasons_0 : decode cX9_seasons 0 = .ok (.aload_n 0, 1) := by decide +kernel
theorem dX9_seasons_1 : decode cX9_seasons 1 = .ok (.iload_n 1, 1) := by decide +kernel
theorem dX9_seasons_2 : decode cX9_seasons 2 = .ok (.invokevirtual 180, 3) := by decide +kernel
theorem dX9_seasons_5 : decode cX9_seasons 5 = .ok (.ifCond .ne 5, 3) := by decide +kernel
theorem dX9_seasons_8 : decode cX9_seasons 8 = .ok (.iconst (-1), 1) := by decide +kernel
theorem dX9_seasons_9 : decode cX9_seasons 9 = .ok (.ireturn, 1) := by decide +kernel
theorem dX9_seasons_10 : decode cX9_seasons 10 = .ok (.aload_n 0, 1) := by decide +kernel
theorem dX9_seasons_11 : decode cX9_seasons 11 = .ok (.iload_n 1, 1) := by decide +kernel
theorem dX9_seasons_12 : decode cX9_seasons 12 = .ok (.invokevirtual 199, 3) := by decide +kernel
theorem dX9_seasons_15 : decode cX9_seasons 15 = .ok (.ifCond .eq 19, 3) := by decide +kernel
theorem dX9_seasons_18 : decode cX9_seasons 18 = .ok (.aload_n 0, 1) := by decide +kernel
theorem dX9_seasons_19 : decode cX9_seasons 19 = .ok (.bipush 12, 2) := by decide +kernel
theorem dX9_seasons_21 : decode cX9_seasons 21 = .ok (.iconst 5, 1) := by decide +kernel
theorem dX9_seasons_22 : decode cX9_seasons 22 = .ok (.iload_n 1, 1) := by decide +kernel
theorem dX9_seasons_23 : decode cX9_seasons 23 = .ok (.imul, 1) := by decide +kernel
theorem dX9_seasons_24 : decode cX9_seasons 24 = .ok (.iadd, 1) := by decide +kernel
theorem dX9_seasons_25 : decode cX9_seasons 25 = .ok (.iconst 1, 1) := by decide +kernel
theorem dX9_seasons_26 : decode cX9_seasons 26 = .ok (.iadd, 1) := by decide +kernel
theorem dX9_seasons_27 : decode cX9_seasons 27 = .ok (.iconst 3, 1) := by decide +kernel
theorem dX9_seasons_28 : decode cX9_seasons 28 = .ok (.invokevirtual 272, 3) := by decide +kernel
theorem dX9_seasons_31 : decode cX9_seasons 31 = .ok (.goto 5, 3) := by decide +kernel
theorem dX9_seasons_34 : decode cX9_seasons 34 = .ok (.bipush (-2), 2) := by decide +kernel
theorem dX9_seasons_36 : decode cX9_seasons 36 = .ok (.ireturn, 1) := by decide +kernel
def f_X9_seasons (Λ : List Ly) (d : Dt) (p0 : Nat) (v1 : Int32) : Option (Int32 × Dt) := if clsAt Λ p0 = some 9 then (Option.bind (f_X9_isChild Λ d p0 v1) fun z2 => if z2 = 0 then (some ((-1 : Int32), d)) else (Option.bind (f_X9_isBound Λ d p0 v1) fun z4 => if z4 = 0 then (some ((-2 : Int32), d)) else (Option.bind (f_X9_which Λ d p0 (((12 : Int32) + ((5 : Int32) * v1)) + (1 : Int32)) (3 : Int32)) fun z6 => some (z6.1, z6.2)))) else none
set_option maxHeartbeats 4000000 in
set_option maxRecDepth 100000 in
theorem c_X9_seasons (Γ : Cx) (l : Launch) (Λ : List Ly) (d : Dt) (p0 : Nat) (v1 : Int32) (z : Int32 × Dt) (hf : f_X9_seasons Λ d p0 v1 = some z) : Cn Γ l yX9_seasons cX9_seasons 2 (some FieldType.int) 7 158 [.ref (Γ.2.2.1 + p0), .int v1] Λ d (some (.int z.1)) z.2 := by
  refine Cn.of (own := "SeasonBoundModel") (by decide +kernel) rfl (Nat.le_of_ble_eq_true rfl) ?_
  intro p e s m below meth c C0 hr hlocks hH ls hl
  have hl : lv_has ls 2 [(0, .ref (Γ.2.2.1 + p0)), (1, .int v1)] := hl
  obtain ⟨hx, hb, hml, hown, hts, hK⟩ := id C0
  unfold f_X9_seasons at hf
  refine lv_aload_n hx hb dX9_seasons_0 rfl (lv_at hl 0 rfl) ?_
  refine lv_iload_n hx hb dX9_seasons_1 rfl (lv_at hl 1 rfl) ?_
  obtain ⟨g1, hf⟩ := gd hf
  obtain ⟨z2, h2, hf⟩ := ob hf
  refine r_callVi (rest := []) C0 hH (c_X9_isChild Γ l Λ d p0 v1 z2 h2) cv_X9_180 g1 (by decide) rfl hl.1 rfl (Nat.le_of_ble_eq_true rfl) dX9_seasons_2 (by decide) (fun H locs hH => ?_)
  refine lv_if_ne (tgt := 10) hx hb dX9_seasons_5 (by decide) (fun c3 => ?_) (fun c3 => ?_)
  · replace hf := ie hf c3
    refine lv_aload_n hx hb dX9_seasons_10 rfl (lv_at hl 0 rfl) ?_
    refine lv_iload_n hx hb dX9_seasons_11 rfl (lv_at hl 1 rfl) ?_
    obtain ⟨z4, h4, hf⟩ := ob hf
    refine r_callVi (rest := []) C0 hH (c_X9_isBound Γ l Λ d p0 v1 z4 h4) cv_X9_199 g1 (by decide) rfl hl.1 rfl (Nat.le_of_ble_eq_true rfl) dX9_seasons_12 (by decide) (fun H locs hH => ?_)
    refine lv_if_eq (tgt := 34) hx hb dX9_seasons_15 (by decide) (fun c5 => ?_) (fun c5 => ?_)
    · replace hf := it hf c5
      refine lv_bipush (v := (-2 : Int32)) hx hb dX9_seasons_34 (by decide) ?_
      obtain rfl := Option.some.inj hf
      exact r_iret (d' := d) C0 hr hlocks hH rfl dX9_seasons_36
    · replace hf := ie hf c5
      refine lv_aload_n hx hb dX9_seasons_18 rfl (lv_at hl 0 rfl) ?_
      refine lv_bipush (v := (12 : Int32)) hx hb dX9_seasons_19 (by decide) ?_
      refine lv_iconst (v := (5 : Int32)) hx hb dX9_seasons_21 (by decide) ?_
      refine lv_iload_n hx hb dX9_seasons_22 rfl (lv_at hl 1 rfl) ?_
      refine lv_imul hx hb dX9_seasons_23 ?_
      refine lv_iadd hx hb dX9_seasons_24 ?_
      refine lv_iconst (v := (1 : Int32)) hx hb dX9_seasons_25 (by decide) ?_
      refine lv_iadd hx hb dX9_seasons_26 ?_
      refine lv_iconst (v := (3 : Int32)) hx hb dX9_seasons_27 (by decide) ?_
      obtain ⟨z6, h6, hf⟩ := ob hf
      refine r_callVi (rest := []) C0 hH (c_X9_which Γ l Λ d p0 (((12 : Int32) + ((5 : Int32) * v1)) + (1 : Int32)) (3 : Int32) z6 h6) cv_X9_272 g1 (by decide) rfl hl.1 rfl (Nat.le_of_ble_eq_true rfl) dX9_seasons_28 (by decide) (fun H locs hH => ?_)
      refine lv_goto (tgt := 36) hx hb dX9_seasons_31 (by decide) ?_
      obtain rfl := Option.some.inj hf
      exact r_iret (d' := d) C0 hr hlocks hH rfl dX9_seasons_36
  · replace hf := it hf c3
    refine lv_iconst (v := (-1 : Int32)) hx hb dX9_seasons_8 (by decide) ?_
    obtain rfl := Option.some.inj hf
    exact r_iret (d' := d) C0 hr hlocks hH rfl dX9_seasons_9
theorem dX9_gifts_0 : decode cX9_gifts 0 = .ok (.iload_n 1, 1) := by decide +kernel
theorem dX9_gifts_1 : decode cX9_gifts 1 = .ok (.invokestatic 185, 3) := by decide +kernel
theorem dX9_gifts_4 : decode cX9_gifts 4 = .ok (.ifCond .eq 17, 3) := by decide +kernel
theorem dX9_gifts_7 : decode cX9_gifts 7 = .ok (.aload_n 0, 1) := by decide +kernel
theorem dX9_gifts_8 : decode cX9_gifts 8 = .ok (.iconst 3, 1) := by decide +kernel
theorem dX9_gifts_9 : decode cX9_gifts 9 = .ok (.iload_n 1, 1) := by decide +kernel
theorem dX9_gifts_10 : decode cX9_gifts 10 = .ok (.imul, 1) := by decide +kernel
theorem dX9_gifts_11 : decode cX9_gifts 11 = .ok (.iconst 1, 1) := by decide +kernel
theorem dX9_gifts_12 : decode cX9_gifts 12 = .ok (.iadd, 1) := by decide +kernel
theorem dX9_gifts_13 : decode cX9_gifts 13 = .ok (.bipush 9, 2) := by decide +kernel
theorem dX9_gifts_15 : decode cX9_gifts 15 = .ok (.invokevirtual 272, 3) := by decide +kernel
theorem dX9_gifts_18 : decode cX9_gifts 18 = .ok (.goto 4, 3) := by decide +kernel
theorem dX9_gifts_21 : decode cX9_gifts 21 = .ok (.iconst (-1), 1) := by decide +kernel
theorem dX9_gifts_22 : decode cX9_gifts 22 = .ok (.ireturn, 1) := by decide +kernel
def f_X9_gifts (Λ : List Ly) (d : Dt) (p0 : Nat) (v1 : Int32) : Option (Int32 × Dt) := if (f_X9_isSeason v1) = 0 then (some ((-1 : Int32), d)) else (if clsAt Λ p0 = some 9 then (Option.bind (f_X9_which Λ d p0 (((3 : Int32) * v1) + (1 : Int32)) (9 : Int32)) fun z3 => some (z3.1, z3.2)) else none)
set_option maxHeartbeats 4000000 in
set_option maxRecDepth 100000 in
theorem c_X9_gifts (Γ : Cx) (l : Launch) (Λ : List Ly) (d : Dt) (p0 : Nat) (v1 : Int32) (z : Int32 × Dt) (hf : f_X9_gifts Λ d p0 v1 = some z) : Cn Γ l yX9_gifts cX9_gifts 2 (some FieldType.int) 7 158 [.ref (Γ.2.2.1 + p0), .int v1] Λ d (some (.int z.1)) z.2 := by
  refine Cn.of (own := "SeasonBoundModel") (by decide +kernel) rfl (Nat.le_of_ble_eq_true rfl) ?_
  intro p e s m below meth c C0 hr hlocks hH ls hl
  have hl : lv_has ls 2 [(0, .ref (Γ.2.2.1 + p0)), (1, .int v1)] := hl
  obtain ⟨hx, hb, hml, hown, hts, hK⟩ := id C0
  unfold f_X9_gifts at hf
  refine lv_iload_n hx hb dX9_gifts_0 rfl (lv_at hl 1 rfl) ?_
  refine r_callSi (rest := []) C0 hH (c_X9_isSeason Γ l Λ d v1) cs_X9_185 (by decide) rfl hl.1 rfl (Nat.le_of_ble_eq_true rfl) dX9_gifts_1 (by decide) (fun H locs hH => ?_)
  refine lv_if_eq (tgt := 21) hx hb dX9_gifts_4 (by decide) (fun c1 => ?_) (fun c1 => ?_)
  · replace hf := it hf c1
    refine lv_iconst (v := (-1 : Int32)) hx hb dX9_gifts_21 (by decide) ?_
    obtain rfl := Option.some.inj hf
    exact r_iret (d' := d) C0 hr hlocks hH rfl dX9_gifts_22
  · replace hf := ie hf c1
    refine lv_aload_n hx hb dX9_gifts_7 rfl (lv_at hl 0 rfl) ?_
    refine lv_iconst (v := (3 : Int32)) hx hb dX9_gifts_8 (by decide) ?_
    refine lv_iload_n hx hb dX9_gifts_9 rfl (lv_at hl 1 rfl) ?_
    refine lv_imul hx hb dX9_gifts_10 ?_
    refine lv_iconst (v := (1 : Int32)) hx hb dX9_gifts_11 (by decide) ?_
    refine lv_iadd hx hb dX9_gifts_12 ?_
    refine lv_bipush (v := (9 : Int32)) hx hb dX9_gifts_13 (by decide) ?_
    obtain ⟨g2, hf⟩ := gd hf
    obtain ⟨z3, h3, hf⟩ := ob hf
    refine r_callVi (rest := []) C0 hH (c_X9_which Γ l Λ d p0 (((3 : Int32) * v1) + (1 : Int32)) (9 : Int32) z3 h3) cv_X9_272 g2 (by decide) rfl hl.1 rfl (Nat.le_of_ble_eq_true rfl) dX9_gifts_15 (by decide) (fun H locs hH => ?_)
    refine lv_goto (tgt := 22) hx hb dX9_gifts_18 (by decide) ?_
    obtain rfl := Option.some.inj hf
    exact r_iret (d' := d) C0 hr hlocks hH rfl dX9_gifts_22
theorem dX9_ask_0 : decode cX9_ask 0 = .ok (.iload_n 1, 1) := by decide +kernel
theorem dX9_ask_1 : decode cX9_ask 1 = .ok (.invokestatic 185, 3) := by decide +kernel
theorem dX9_ask_4 : decode cX9_ask 4 = .ok (.ifCond .eq 10, 3) := by decide +kernel
theorem dX9_ask_7 : decode cX9_ask 7 = .ok (.iload_n 2, 1) := by decide +kernel
theorem dX9_ask_8 : decode cX9_ask 8 = .ok (.invokestatic 228, 3) := by decide +kernel
theorem dX9_ask_11 : decode cX9_ask 11 = .ok (.ifCond .ne 5, 3) := by decide +kernel
theorem dX9_ask_14 : decode cX9_ask 14 = .ok (.iconst (-1), 1) := by decide +kernel
theorem dX9_ask_15 : decode cX9_ask 15 = .ok (.ireturn, 1) := by decide +kernel
theorem dX9_ask_16 : decode cX9_ask 16 = .ok (.iconst 0, 1) := by decide +kernel
theorem dX9_ask_17 : decode cX9_ask 17 = .ok (.istore_n 3, 1) := by decide +kernel
theorem dX9_ask_18 : decode cX9_ask 18 = .ok (.iconst 0, 1) := by decide +kernel
theorem dX9_ask_19 : decode cX9_ask 19 = .ok (.istore 4, 2) := by decide +kernel
theorem dX9_ask_21 : decode cX9_ask 21 = .ok (.iload 4, 2) := by decide +kernel
theorem dX9_ask_23 : decode cX9_ask 23 = .ok (.bipush 9, 2) := by decide +kernel
theorem dX9_ask_25 : decode cX9_ask 25 = .ok (.if_icmp .gt 63, 3) := by decide +kernel
theorem dX9_ask_28 : decode cX9_ask 28 = .ok (.aload_n 0, 1) := by decide +kernel
theorem dX9_ask_29 : decode cX9_ask 29 = .ok (.iconst 3, 1) := by decide +kernel
theorem dX9_ask_30 : decode cX9_ask 30 = .ok (.iload_n 1, 1) := by decide +kernel
theorem dX9_ask_31 : decode cX9_ask 31 = .ok (.imul, 1) := by decide +kernel
theorem dX9_ask_32 : decode cX9_ask 32 = .ok (.iconst 1, 1) := by decide +kernel
theorem dX9_ask_33 : decode cX9_ask 33 = .ok (.iadd, 1) := by decide +kernel
theorem dX9_ask_34 : decode cX9_ask 34 = .ok (.iload 4, 2) := by decide +kernel
theorem dX9_ask_36 : decode cX9_ask 36 = .ok (.invokevirtual 269, 3) := by decide +kernel
theorem dX9_ask_39 : decode cX9_ask 39 = .ok (.ifCond .eq 43, 3) := by decide +kernel
theorem dX9_ask_42 : decode cX9_ask 42 = .ok (.iconst 0, 1) := by decide +kernel
theorem dX9_ask_43 : decode cX9_ask 43 = .ok (.istore 5, 2) := by decide +kernel
theorem dX9_ask_45 : decode cX9_ask 45 = .ok (.iload 5, 2) := by decide +kernel
theorem dX9_ask_47 : decode cX9_ask 47 = .ok (.sipush 155, 3) := by decide +kernel
theorem dX9_ask_50 : decode cX9_ask 50 = .ok (.if_icmp .ge 29, 3) := by decide +kernel
theorem dX9_ask_53 : decode cX9_ask 53 = .ok (.aload_n 0, 1) := by decide +kernel
theorem dX9_ask_54 : decode cX9_ask 54 = .ok (.getfield 29, 3) := by decide +kernel
theorem dX9_ask_57 : decode cX9_ask 57 = .ok (.sipush 155, 3) := by decide +kernel
theorem dX9_ask_60 : decode cX9_ask 60 = .ok (.iload_n 3, 1) := by decide +kernel
theorem dX9_ask_61 : decode cX9_ask 61 = .ok (.imul, 1) := by decide +kernel
theorem dX9_ask_62 : decode cX9_ask 62 = .ok (.iload 5, 2) := by decide +kernel
theorem dX9_ask_64 : decode cX9_ask 64 = .ok (.iadd, 1) := by decide +kernel
theorem dX9_ask_65 : decode cX9_ask 65 = .ok (.aload_n 0, 1) := by decide +kernel
theorem dX9_ask_66 : decode cX9_ask 66 = .ok (.getfield 26, 3) := by decide +kernel
theorem dX9_ask_69 : decode cX9_ask 69 = .ok (.iload 5, 2) := by decide +kernel
theorem dX9_ask_71 : decode cX9_ask 71 = .ok (.iaload, 1) := by decide +kernel
theorem dX9_ask_72 : decode cX9_ask 72 = .ok (.iastore, 1) := by decide +kernel
theorem dX9_ask_73 : decode cX9_ask 73 = .ok (.iinc 5 1, 3) := by decide +kernel
theorem dX9_ask_76 : decode cX9_ask 76 = .ok (.goto (-31), 3) := by decide +kernel
theorem dX9_ask_79 : decode cX9_ask 79 = .ok (.iinc 3 1, 3) := by decide +kernel
theorem dX9_ask_82 : decode cX9_ask 82 = .ok (.iinc 4 1, 3) := by decide +kernel
theorem dX9_ask_85 : decode cX9_ask 85 = .ok (.goto (-64), 3) := by decide +kernel
theorem dX9_ask_88 : decode cX9_ask 88 = .ok (.iload_n 3, 1) := by decide +kernel
theorem dX9_ask_89 : decode cX9_ask 89 = .ok (.istore 4, 2) := by decide +kernel
theorem dX9_ask_91 : decode cX9_ask 91 = .ok (.bipush (-4), 2) := by decide +kernel
theorem dX9_ask_93 : decode cX9_ask 93 = .ok (.istore 5, 2) := by decide +kernel
theorem dX9_ask_95 : decode cX9_ask 95 = .ok (.iconst 0, 1) := by decide +kernel
theorem dX9_ask_96 : decode cX9_ask 96 = .ok (.istore 6, 2) := by decide +kernel
theorem dX9_ask_98 : decode cX9_ask 98 = .ok (.iload 6, 2) := by decide +kernel
theorem dX9_ask_100 : decode cX9_ask 100 = .ok (.sipush 155, 3) := by decide +kernel
theorem dX9_ask_103 : decode cX9_ask 103 = .ok (.if_icmp .ge 134, 3) := by decide +kernel
theorem dX9_ask_106 : decode cX9_ask 106 = .ok (.iconst 0, 1) := by decide +kernel
theorem dX9_ask_107 : decode cX9_ask 107 = .ok (.istore 7, 2) := by decide +kernel
theorem dX9_ask_109 : decode cX9_ask 109 = .ok (.iconst 0, 1) := by decide +kernel
theorem dX9_ask_110 : decode cX9_ask 110 = .ok (.istore 8, 2) := by decide +kernel
theorem dX9_ask_112 : decode cX9_ask 112 = .ok (.iload 8, 2) := by decide +kernel
theorem dX9_ask_114 : decode cX9_ask 114 = .ok (.iload_n 3, 1) := by decide +kernel
theorem dX9_ask_115 : decode cX9_ask 115 = .ok (.if_icmp .ge 87, 3) := by decide +kernel
theorem dX9_ask_118 : decode cX9_ask 118 = .ok (.iconst 0, 1) := by decide +kernel
theorem dX9_ask_119 : decode cX9_ask 119 = .ok (.istore 9, 2) := by decide +kernel
theorem dX9_ask_121 : decode cX9_ask 121 = .ok (.iconst 0, 1) := by decide +kernel
theorem dX9_ask_122 : decode cX9_ask 122 = .ok (.istore 10, 2) := by decide +kernel
theorem dX9_ask_124 : decode cX9_ask 124 = .ok (.iload 10, 2) := by decide +kernel
theorem dX9_ask_126 : decode cX9_ask 126 = .ok (.iload_n 3, 1) := by decide +kernel
theorem dX9_ask_127 : decode cX9_ask 127 = .ok (.if_icmp .ge 53, 3) := by decide +kernel
theorem dX9_ask_130 : decode cX9_ask 130 = .ok (.iload 9, 2) := by decide +kernel
theorem dX9_ask_132 : decode cX9_ask 132 = .ok (.aload_n 0, 1) := by decide +kernel
theorem dX9_ask_133 : decode cX9_ask 133 = .ok (.getfield 29, 3) := by decide +kernel
theorem dX9_ask_136 : decode cX9_ask 136 = .ok (.sipush 155, 3) := by decide +kernel
theorem dX9_ask_139 : decode cX9_ask 139 = .ok (.iload 8, 2) := by decide +kernel
theorem dX9_ask_141 : decode cX9_ask 141 = .ok (.imul, 1) := by decide +kernel
theorem dX9_ask_142 : decode cX9_ask 142 = .ok (.iload 6, 2) := by decide +kernel
theorem dX9_ask_144 : decode cX9_ask 144 = .ok (.iadd, 1) := by decide +kernel
theorem dX9_ask_145 : decode cX9_ask 145 = .ok (.iaload, 1) := by decide +kernel
theorem dX9_ask_146 : decode cX9_ask 146 = .ok (.aload_n 0, 1) := by decide +kernel
theorem dX9_ask_147 : decode cX9_ask 147 = .ok (.getfield 29, 3) := by decide +kernel
theorem dX9_ask_150 : decode cX9_ask 150 = .ok (.sipush 155, 3) := by decide +kernel
theorem dX9_ask_153 : decode cX9_ask 153 = .ok (.iload 10, 2) := by decide +kernel
theorem dX9_ask_155 : decode cX9_ask 155 = .ok (.imul, 1) := by decide +kernel
theorem dX9_ask_156 : decode cX9_ask 156 = .ok (.iload 6, 2) := by decide +kernel
theorem dX9_ask_158 : decode cX9_ask 158 = .ok (.iadd, 1) := by decide +kernel
theorem dX9_ask_159 : decode cX9_ask 159 = .ok (.iaload, 1) := by decide +kernel
theorem dX9_ask_160 : decode cX9_ask 160 = .ok (.if_icmp .ne 7, 3) := by decide +kernel
theorem dX9_ask_163 : decode cX9_ask 163 = .ok (.iconst 1, 1) := by decide +kernel
theorem dX9_ask_164 : decode cX9_ask 164 = .ok (.goto 4, 3) := by decide +kernel
theorem dX9_ask_167 : decode cX9_ask 167 = .ok (.iconst 0, 1) := by decide +kernel
theorem dX9_ask_168 : decode cX9_ask 168 = .ok (.invokestatic 146, 3) := by decide +kernel
theorem dX9_ask_171 : decode cX9_ask 171 = .ok (.iadd, 1) := by decide +kernel
theorem dX9_ask_172 : decode cX9_ask 172 = .ok (.istore 9, 2) := by decide +kernel
theorem dX9_ask_174 : decode cX9_ask 174 = .ok (.iinc 10 1, 3) := by decide +kernel
theorem dX9_ask_177 : decode cX9_ask 177 = .ok (.goto (-53), 3) := by decide +kernel
theorem dX9_ask_180 : decode cX9_ask 180 = .ok (.iload 9, 2) := by decide +kernel
theorem dX9_ask_182 : decode cX9_ask 182 = .ok (.iload 7, 2) := by decide +kernel
theorem dX9_ask_184 : decode cX9_ask 184 = .ok (.if_icmp .le 8, 3) := by decide +kernel
theorem dX9_ask_187 : decode cX9_ask 187 = .ok (.iload 9, 2) := by decide +kernel
theorem dX9_ask_189 : decode cX9_ask 189 = .ok (.goto 5, 3) := by decide +kernel
theorem dX9_ask_192 : decode cX9_ask 192 = .ok (.iload 7, 2) := by decide +kernel
theorem dX9_ask_194 : decode cX9_ask 194 = .ok (.istore 7, 2) := by decide +kernel
theorem dX9_ask_196 : decode cX9_ask 196 = .ok (.iinc 8 1, 3) := by decide +kernel
theorem dX9_ask_199 : decode cX9_ask 199 = .ok (.goto (-87), 3) := by decide +kernel
theorem dX9_ask_202 : decode cX9_ask 202 = .ok (.iload 6, 2) := by decide +kernel
theorem dX9_ask_204 : decode cX9_ask 204 = .ok (.iconst 5, 1) := by decide +kernel
theorem dX9_ask_205 : decode cX9_ask 205 = .ok (.irem, 1) := by decide +kernel
theorem dX9_ask_206 : decode cX9_ask 206 = .ok (.aload_n 0, 1) := by decide +kernel
theorem dX9_ask_207 : decode cX9_ask 207 = .ok (.getfield 7, 3) := by decide +kernel
theorem dX9_ask_210 : decode cX9_ask 210 = .ok (.bipush 37, 2) := by decide +kernel
theorem dX9_ask_212 : decode cX9_ask 212 = .ok (.iaload, 1) := by decide +kernel
theorem dX9_ask_213 : decode cX9_ask 213 = .ok (.if_icmp .ge 18, 3) := by decide +kernel
theorem dX9_ask_216 : decode cX9_ask 216 = .ok (.iload 7, 2) := by decide +kernel
theorem dX9_ask_218 : decode cX9_ask 218 = .ok (.iload 4, 2) := by decide +kernel
theorem dX9_ask_220 : decode cX9_ask 220 = .ok (.if_icmp .ge 11, 3) := by decide +kernel
theorem dX9_ask_223 : decode cX9_ask 223 = .ok (.iload 7, 2) := by decide +kernel
theorem dX9_ask_225 : decode cX9_ask 225 = .ok (.istore 4, 2) := by decide +kernel
theorem dX9_ask_227 : decode cX9_ask 227 = .ok (.iload 6, 2) := by decide +kernel
theorem dX9_ask_229 : decode cX9_ask 229 = .ok (.istore 5, 2) := by decide +kernel
theorem dX9_ask_231 : decode cX9_ask 231 = .ok (.iinc 6 1, 3) := by decide +kernel
theorem dX9_ask_234 : decode cX9_ask 234 = .ok (.goto (-136), 3) := by decide +kernel
theorem dX9_ask_237 : decode cX9_ask 237 = .ok (.iload 5, 2) := by decide +kernel
theorem dX9_ask_239 : decode cX9_ask 239 = .ok (.bipush (-4), 2) := by decide +kernel
theorem dX9_ask_241 : decode cX9_ask 241 = .ok (.if_icmp .ne 8, 3) := by decide +kernel
theorem dX9_ask_244 : decode cX9_ask 244 = .ok (.bipush (-4), 2) := by decide +kernel
theorem dX9_ask_246 : decode cX9_ask 246 = .ok (.goto 24, 3) := by decide +kernel
theorem dX9_ask_249 : decode cX9_ask 249 = .ok (.iload_n 2, 1) := by decide +kernel
theorem dX9_ask_250 : decode cX9_ask 250 = .ok (.ifCond .ne 18, 3) := by decide +kernel
theorem dX9_ask_253 : decode cX9_ask 253 = .ok (.bipush 10, 2) := by decide +kernel
theorem dX9_ask_255 : decode cX9_ask 255 = .ok (.iload 5, 2) := by decide +kernel
theorem dX9_ask_257 : decode cX9_ask 257 = .ok (.iconst 5, 1) := by decide +kernel
theorem dX9_ask_258 : decode cX9_ask 258 = .ok (.idiv, 1) := by decide +kernel
theorem dX9_ask_259 : decode cX9_ask 259 = .ok (.imul, 1) := by decide +kernel
theorem dX9_ask_260 : decode cX9_ask 260 = .ok (.iload 5, 2) := by decide +kernel
theorem dX9_ask_262 : decode cX9_ask 262 = .ok (.iconst 5, 1) := by decide +kernel
theorem dX9_ask_263 : decode cX9_ask 263 = .ok (.irem, 1) := by decide +kernel
theorem dX9_ask_264 : decode cX9_ask 264 = .ok (.iadd, 1) := by decide +kernel
theorem dX9_ask_265 : decode cX9_ask 265 = .ok (.goto 5, 3) := by decide +kernel
theorem dX9_ask_268 : decode cX9_ask 268 = .ok (.iload 4, 2) := by decide +kernel
theorem dX9_ask_270 : decode cX9_ask 270 = .ok (.ireturn, 1) := by decide +kernel
def f_X9_ask_L45 (Λ : List Ly) (p0 : Nat) (v1 : Int32) (v2 : Int32) (v3 : Int32) (v4 : Int32) (k79 : Int32 → Dt → Option (Int32 × Dt)) : Nat → Int32 → Dt → Option (Int32 × Dt)
  | 0, _, _ => none
  | n + 1, v5, d => if (155 : Int32) ≤ v5 then (k79 v5 d) else (Option.bind (rf Λ p0 9 19) fun q8 => Option.bind (rf Λ p0 9 18) fun q9 => if okA Λ q9 1 v5 = true then (if okA Λ q8 1 (((155 : Int32) * v3) + v5) = true then (f_X9_ask_L45 Λ p0 v1 v2 v3 v4 k79 n (v5 + (1 : Int32)) (pI d q8 ((((155 : Int32) * v3) + v5)).toNatClampNeg (d.1 q9 (v5).toNatClampNeg))) else none) else none)
def f_X9_ask_L21 (Λ : List Ly) (p0 : Nat) (v1 : Int32) (v2 : Int32) (k88 : Int32 → Int32 → Dt → Option (Int32 × Dt)) : Nat → Int32 → Int32 → Dt → Option (Int32 × Dt)
  | 0, _, _, _ => none
  | n + 1, v3, v4, d => if (9 : Int32) < v4 then (k88 v3 v4 d) else (if clsAt Λ p0 = some 9 then (Option.bind (f_X9_isSoWith Λ d p0 (((3 : Int32) * v1) + (1 : Int32)) v4) fun z5 => if z5.1 = 0 then (f_X9_ask_L21 Λ p0 v1 v2 k88 n v3 (v4 + (1 : Int32)) z5.2) else (f_X9_ask_L45 Λ p0 v1 v2 v3 v4 (fun x12_5 d12 => f_X9_ask_L21 Λ p0 v1 v2 k88 n (v3 + (1 : Int32)) (v4 + (1 : Int32)) d12) FU (0 : Int32) z5.2)) else none)
def f_X9_ask_L124 (Λ : List Ly) (d : Dt) (p0 : Nat) (v2 : Int32) (v3 : Int32) (v4 : Int32) (v5 : Int32) (v6 : Int32) (v7 : Int32) (v8 : Int32) (k180 : Int32 → Int32 → Option (Int32 × Dt)) : Nat → Int32 → Int32 → Option (Int32 × Dt)
  | 0, _, _ => none
  | n + 1, v9, v10 => if v3 ≤ v10 then (k180 v9 v10) else (Option.bind (rf Λ p0 9 19) fun q17 => if okA Λ q17 1 (((155 : Int32) * v8) + v6) = true then (if okA Λ q17 1 (((155 : Int32) * v10) + v6) = true then (if (d.1 q17 ((((155 : Int32) * v8) + v6)).toNatClampNeg) = (d.1 q17 ((((155 : Int32) * v10) + v6)).toNatClampNeg) then (f_X9_ask_L124 Λ d p0 v2 v3 v4 v5 v6 v7 v8 k180 n (v9 + (f_X9_flag (1 : Int32))) (v10 + (1 : Int32))) else (f_X9_ask_L124 Λ d p0 v2 v3 v4 v5 v6 v7 v8 k180 n (v9 + (f_X9_flag (0 : Int32))) (v10 + (1 : Int32)))) else none) else none)
def f_X9_ask_L112 (Λ : List Ly) (d : Dt) (p0 : Nat) (v2 : Int32) (v3 : Int32) (v4 : Int32) (v5 : Int32) (v6 : Int32) (k202 : Int32 → Int32 → Option (Int32 × Dt)) : Nat → Int32 → Int32 → Option (Int32 × Dt)
  | 0, _, _ => none
  | n + 1, v7, v8 => if v3 ≤ v8 then (k202 v7 v8) else (f_X9_ask_L124 Λ d p0 v2 v3 v4 v5 v6 v7 v8 (fun x21_9 x21_10 => if x21_9 ≤ v7 then (f_X9_ask_L112 Λ d p0 v2 v3 v4 v5 v6 k202 n v7 (v8 + (1 : Int32))) else (f_X9_ask_L112 Λ d p0 v2 v3 v4 v5 v6 k202 n x21_9 (v8 + (1 : Int32)))) FU (0 : Int32) (0 : Int32))
def f_X9_ask_L98 (Λ : List Ly) (d : Dt) (p0 : Nat) (v2 : Int32) (v3 : Int32) (k237 : Int32 → Int32 → Int32 → Option (Int32 × Dt)) : Nat → Int32 → Int32 → Int32 → Option (Int32 × Dt)
  | 0, _, _, _ => none
  | n + 1, v4, v5, v6 => if (155 : Int32) ≤ v6 then (k237 v4 v5 v6) else (f_X9_ask_L112 Λ d p0 v2 v3 v4 v5 v6 (fun x23_7 x23_8 => Option.bind (rf Λ p0 9 0) fun q24 => if okA Λ q24 1 (37 : Int32) = true then (if (d.1 q24 ((37 : Int32)).toNatClampNeg) ≤ (v6 - v6 / (5 : Int32) * (5 : Int32)) then (f_X9_ask_L98 Λ d p0 v2 v3 k237 n v4 v5 (v6 + (1 : Int32))) else (if v4 ≤ x23_7 then (f_X9_ask_L98 Λ d p0 v2 v3 k237 n v4 v5 (v6 + (1 : Int32))) else (f_X9_ask_L98 Λ d p0 v2 v3 k237 n x23_7 v6 (v6 + (1 : Int32))))) else none) FU (0 : Int32) (0 : Int32))
def f_X9_ask (Λ : List Ly) (d : Dt) (p0 : Nat) (v1 : Int32) (v2 : Int32) : Option (Int32 × Dt) := if (f_X9_isSeason v1) = 0 then (some ((-1 : Int32), d)) else (if (f_X9_isPart v2) = 0 then (some ((-1 : Int32), d)) else (f_X9_ask_L21 Λ p0 v1 v2 (fun x13_3 x13_4 d13 => f_X9_ask_L98 Λ d13 p0 v2 x13_3 (fun x28_4 x28_5 x28_6 => if x28_5 = (-4 : Int32) then (some ((-4 : Int32), d13)) else (if v2 = 0 then (some ((((10 : Int32) * (x28_5 / (5 : Int32))) + (x28_5 - x28_5 / (5 : Int32) * (5 : Int32))), d13)) else (some (x28_4, d13)))) FU x13_3 (-4 : Int32) (0 : Int32)) FU (0 : Int32) (0 : Int32) d))
set_option maxHeartbeats 4000000 in
set_option maxRecDepth 100000 in
theorem w_X9_ask_L45 {p : Program} {l : Launch} {e : Env} {s : State} {m : MethodId} {args : Array Value} {below : List Frame} {meth : Method} {c : Code} {Γ : Cx} {Λ : List Ly} {z : Int32 × Dt} (C0 : Ct Γ p s m args c cX9_ask 11 "SeasonBoundModel") (hr : meth.sig.returnType = (some FieldType.int)) (hlocks : meth.locks = false) (k79 : Int32 → Dt → Option (Int32 × Dt)) (p0 : Nat) (v1 : Int32) (v2 : Int32) (v3 : Int32) (v4 : Int32)
    (hk79 : ∀ (v5 : Int32) (d : Dt), (k79 v5 d = some z) → ∀ (H : Heap) (locs : List Loc) (ls : Array Slot), Hs Γ Λ d s H locs → lv_has ls 11 [(0, .ref (Γ.2.2.1 + p0)), (1, .int v1), (2, .int v2), (3, .int v3), (4, .int v4), (5, .int v5)] → W p l e { frames := 6, cells := 0, slots := 0, locals := 134 } s m args below meth c H locs 0 0 (MQ below (QN Γ Λ z.2 (some (.int z.1))) args s 0 0 (AP Γ)) (F0 m 79 ls [])) :
    ∀ (n : Nat) (v5 : Int32) (d : Dt), f_X9_ask_L45 Λ p0 v1 v2 v3 v4 k79 n v5 d = some z → ∀ (H : Heap) (locs : List Loc) (ls : Array Slot), Hs Γ Λ d s H locs → lv_has ls 11 [(0, .ref (Γ.2.2.1 + p0)), (1, .int v1), (2, .int v2), (3, .int v3), (4, .int v4), (5, .int v5)] → W p l e { frames := 6, cells := 0, slots := 0, locals := 134 } s m args below meth c H locs 0 0 (MQ below (QN Γ Λ z.2 (some (.int z.1))) args s 0 0 (AP Γ)) (F0 m 45 ls []) := by
  obtain ⟨hx, hb, hml, hown, hts, hK⟩ := id C0
  intro n
  induction n with
  | zero =>
    intro v5 d hf
    cases hf
  | succ n ih =>
    intro v5 d hf H locs ls hH hl
    unfold f_X9_ask_L45 at hf
    refine lv_iload hx hb dX9_ask_45 (lv_at hl 5 rfl) ?_
    refine lv_sipush (v := (155 : Int32)) hx hb dX9_ask_47 (by decide) ?_
    refine lv_icmp_ge (tgt := 79) hx hb dX9_ask_50 (by decide) (fun c7 => ?_) (fun c7 => ?_)
    · replace hf := it hf c7
      exact hk79 v5 d hf _ _ _ hH (lv_sub hl [0, 1, 2, 3, 4, 5] rfl)
    · replace hf := ie hf c7
      refine lv_aload_n hx hb dX9_ask_53 rfl (lv_at hl 0 rfl) ?_
      obtain ⟨q8, g8, hf⟩ := ob hf
      refine r_getr C0 hH fl_X9_29 g8 dX9_ask_54 ?_
      refine lv_sipush (v := (155 : Int32)) hx hb dX9_ask_57 (by decide) ?_
      refine lv_iload_n hx hb dX9_ask_60 rfl (lv_at hl 3 rfl) ?_
      refine lv_imul hx hb dX9_ask_61 ?_
      refine lv_iload hx hb dX9_ask_62 (lv_at hl 5 rfl) ?_
      refine lv_iadd hx hb dX9_ask_64 ?_
      refine lv_aload_n hx hb dX9_ask_65 rfl (lv_at hl 0 rfl) ?_
      obtain ⟨q9, g9, hf⟩ := ob hf
      refine r_getr C0 hH fl_X9_26 g9 dX9_ask_66 ?_
      refine lv_iload hx hb dX9_ask_69 (lv_at hl 5 rfl) ?_
      obtain ⟨g10, hf⟩ := gd hf
      refine r_iald C0 hH g10 dX9_ask_71 ?_
      obtain ⟨g11, hf⟩ := gd hf
      refine r_iast C0 hH g11 dX9_ask_72 (fun H locs hH => ?_)
      refine lv_iinc (v := (v5 + (1 : Int32))) (lv' := [(5, .int (v5 + (1 : Int32))), (0, .ref (Γ.2.2.1 + p0)), (1, .int v1), (2, .int v2), (3, .int v3), (4, .int v4)]) hx hb dX9_ask_73 hl (k := 5) rfl (congrArg (fun w => v5 + w) (by decide)) (by decide) rfl (fun ls hl => ?_)
      refine lv_goto (tgt := 45) hx hb dX9_ask_76 (by decide) ?_
      exact ih (v5 + (1 : Int32)) (pI d q8 ((((155 : Int32) * v3) + v5)).toNatClampNeg (d.1 q9 (v5).toNatClampNeg)) hf _ _ _ hH (lv_sub hl [1, 2, 3, 4, 5, 0] rfl)
set_option maxHeartbeats 4000000 in
set_option maxRecDepth 100000 in
theorem w_X9_ask_L21 {p : Program} {l : Launch} {e : Env} {s : State} {m : MethodId} {args : Array Value} {below : List Frame} {meth : Method} {c : Code} {Γ : Cx} {Λ : List Ly} {z : Int32 × Dt} (C0 : Ct Γ p s m args c cX9_ask 11 "SeasonBoundModel") (hr : meth.sig.returnType = (some FieldType.int)) (hlocks : meth.locks = false) (k88 : Int32 → Int32 → Dt → Option (Int32 × Dt)) (p0 : Nat) (v1 : Int32) (v2 : Int32)
    (hk88 : ∀ (v3 : Int32) (v4 : Int32) (d : Dt), (k88 v3 v4 d = some z) → ∀ (H : Heap) (locs : List Loc) (ls : Array Slot), Hs Γ Λ d s H locs → lv_has ls 11 [(0, .ref (Γ.2.2.1 + p0)), (1, .int v1), (2, .int v2), (3, .int v3), (4, .int v4)] → W p l e { frames := 6, cells := 0, slots := 0, locals := 134 } s m args below meth c H locs 0 0 (MQ below (QN Γ Λ z.2 (some (.int z.1))) args s 0 0 (AP Γ)) (F0 m 88 ls [])) :
    ∀ (n : Nat) (v3 : Int32) (v4 : Int32) (d : Dt), f_X9_ask_L21 Λ p0 v1 v2 k88 n v3 v4 d = some z → ∀ (H : Heap) (locs : List Loc) (ls : Array Slot), Hs Γ Λ d s H locs → lv_has ls 11 [(0, .ref (Γ.2.2.1 + p0)), (1, .int v1), (2, .int v2), (3, .int v3), (4, .int v4)] → W p l e { frames := 6, cells := 0, slots := 0, locals := 134 } s m args below meth c H locs 0 0 (MQ below (QN Γ Λ z.2 (some (.int z.1))) args s 0 0 (AP Γ)) (F0 m 21 ls []) := by
  obtain ⟨hx, hb, hml, hown, hts, hK⟩ := id C0
  intro n
  induction n with
  | zero =>
    intro v3 v4 d hf
    cases hf
  | succ n ih =>
    intro v3 v4 d hf H locs ls hH hl
    unfold f_X9_ask_L21 at hf
    refine lv_iload hx hb dX9_ask_21 (lv_at hl 4 rfl) ?_
    refine lv_bipush (v := (9 : Int32)) hx hb dX9_ask_23 (by decide) ?_
    refine lv_icmp_gt (tgt := 88) hx hb dX9_ask_25 (by decide) (fun c3 => ?_) (fun c3 => ?_)
    · replace hf := it hf c3
      exact hk88 v3 v4 d hf _ _ _ hH (lv_sub hl [0, 1, 2, 3, 4] rfl)
    · replace hf := ie hf c3
      refine lv_aload_n hx hb dX9_ask_28 rfl (lv_at hl 0 rfl) ?_
      refine lv_iconst (v := (3 : Int32)) hx hb dX9_ask_29 (by decide) ?_
      refine lv_iload_n hx hb dX9_ask_30 rfl (lv_at hl 1 rfl) ?_
      refine lv_imul hx hb dX9_ask_31 ?_
      refine lv_iconst (v := (1 : Int32)) hx hb dX9_ask_32 (by decide) ?_
      refine lv_iadd hx hb dX9_ask_33 ?_
      refine lv_iload hx hb dX9_ask_34 (lv_at hl 4 rfl) ?_
      obtain ⟨g4, hf⟩ := gd hf
      obtain ⟨z5, h5, hf⟩ := ob hf
      refine r_callVi (rest := []) C0 hH (c_X9_isSoWith Γ l Λ d p0 (((3 : Int32) * v1) + (1 : Int32)) v4 z5 h5) cv_X9_269 g4 (by decide) rfl hl.1 rfl (Nat.le_of_ble_eq_true rfl) dX9_ask_36 (by decide) (fun H locs hH => ?_)
      refine lv_if_eq (tgt := 82) hx hb dX9_ask_39 (by decide) (fun c6 => ?_) (fun c6 => ?_)
      · replace hf := it hf c6
        refine lv_iinc (v := (v4 + (1 : Int32))) (lv' := [(4, .int (v4 + (1 : Int32))), (0, .ref (Γ.2.2.1 + p0)), (1, .int v1), (2, .int v2), (3, .int v3)]) hx hb dX9_ask_82 hl (k := 4) rfl (congrArg (fun w => v4 + w) (by decide)) (by decide) rfl (fun ls hl => ?_)
        refine lv_goto (tgt := 21) hx hb dX9_ask_85 (by decide) ?_
        exact ih v3 (v4 + (1 : Int32)) z5.2 hf _ _ _ hH (lv_sub hl [1, 2, 3, 4, 0] rfl)
      · replace hf := ie hf c6
        refine lv_iconst (v := (0 : Int32)) hx hb dX9_ask_42 (by decide) ?_
        refine lv_istore (lv' := [(5, .int (0 : Int32)), (0, .ref (Γ.2.2.1 + p0)), (1, .int v1), (2, .int v2), (3, .int v3), (4, .int v4)]) hx hb dX9_ask_43 hl (by decide) rfl (fun ls hl => ?_)
        refine w_X9_ask_L45 C0 hr hlocks _ p0 v1 v2 v3 v4 ?k79 FU (0 : Int32) z5.2 hf _ _ _ hH (lv_sub hl [1, 2, 3, 4, 5, 0] rfl)
        case k79 =>
          intro x12_5 d12 hf H locs ls hH hl
          refine lv_iinc (v := (v3 + (1 : Int32))) (lv' := [(3, .int (v3 + (1 : Int32))), (0, .ref (Γ.2.2.1 + p0)), (1, .int v1), (2, .int v2), (4, .int v4), (5, .int x12_5)]) hx hb dX9_ask_79 hl (k := 3) rfl (congrArg (fun w => v3 + w) (by decide)) (by decide) rfl (fun ls hl => ?_)
          refine lv_iinc (v := (v4 + (1 : Int32))) (lv' := [(4, .int (v4 + (1 : Int32))), (3, .int (v3 + (1 : Int32))), (0, .ref (Γ.2.2.1 + p0)), (1, .int v1), (2, .int v2), (5, .int x12_5)]) hx hb dX9_ask_82 hl (k := 4) rfl (congrArg (fun w => v4 + w) (by decide)) (by decide) rfl (fun ls hl => ?_)
          refine lv_goto (tgt := 21) hx hb dX9_ask_85 (by decide) ?_
          exact ih (v3 + (1 : Int32)) (v4 + (1 : Int32)) d12 hf _ _ _ hH (lv_sub hl [2, 3, 4, 1, 0] rfl)
set_option maxHeartbeats 4000000 in
set_option maxRecDepth 100000 in
theorem w_X9_ask_L124 {p : Program} {l : Launch} {e : Env} {s : State} {m : MethodId} {args : Array Value} {below : List Frame} {meth : Method} {c : Code} {Γ : Cx} {Λ : List Ly} {z : Int32 × Dt} {d : Dt} (C0 : Ct Γ p s m args c cX9_ask 11 "SeasonBoundModel") (hr : meth.sig.returnType = (some FieldType.int)) (hlocks : meth.locks = false) (k180 : Int32 → Int32 → Option (Int32 × Dt)) (p0 : Nat) (v2 : Int32) (v3 : Int32) (v4 : Int32) (v5 : Int32) (v6 : Int32) (v7 : Int32) (v8 : Int32)
    (hk180 : ∀ (v9 : Int32) (v10 : Int32), (k180 v9 v10 = some z) → ∀ (H : Heap) (locs : List Loc) (ls : Array Slot), Hs Γ Λ d s H locs → lv_has ls 11 [(0, .ref (Γ.2.2.1 + p0)), (2, .int v2), (3, .int v3), (4, .int v4), (5, .int v5), (6, .int v6), (7, .int v7), (8, .int v8), (9, .int v9), (10, .int v10)] → W p l e { frames := 6, cells := 0, slots := 0, locals := 134 } s m args below meth c H locs 0 0 (MQ below (QN Γ Λ z.2 (some (.int z.1))) args s 0 0 (AP Γ)) (F0 m 180 ls [])) :
    ∀ (n : Nat) (v9 : Int32) (v10 : Int32), f_X9_ask_L124 Λ d p0 v2 v3 v4 v5 v6 v7 v8 k180 n v9 v10 = some z → ∀ (H : Heap) (locs : List Loc) (ls : Array Slot), Hs Γ Λ d s H locs → lv_has ls 11 [(0, .ref (Γ.2.2.1 + p0)), (2, .int v2), (3, .int v3), (4, .int v4), (5, .int v5), (6, .int v6), (7, .int v7), (8, .int v8), (9, .int v9), (10, .int v10)] → W p l e { frames := 6, cells := 0, slots := 0, locals := 134 } s m args below meth c H locs 0 0 (MQ below (QN Γ Λ z.2 (some (.int z.1))) args s 0 0 (AP Γ)) (F0 m 124 ls []) := by
  obtain ⟨hx, hb, hml, hown, hts, hK⟩ := id C0
  intro n
  induction n with
  | zero =>
    intro v9 v10 hf
    cases hf
  | succ n ih =>
    intro v9 v10 hf H locs ls hH hl
    unfold f_X9_ask_L124 at hf
    refine lv_iload hx hb dX9_ask_124 (lv_at hl 9 rfl) ?_
    refine lv_iload_n hx hb dX9_ask_126 rfl (lv_at hl 2 rfl) ?_
    refine lv_icmp_ge (tgt := 180) hx hb dX9_ask_127 (by decide) (fun c16 => ?_) (fun c16 => ?_)
    · replace hf := it hf c16
      exact hk180 v9 v10 hf _ _ _ hH (lv_sub hl [0, 1, 2, 3, 4, 5, 6, 7, 8, 9] rfl)
    · replace hf := ie hf c16
      refine lv_iload hx hb dX9_ask_130 (lv_at hl 8 rfl) ?_
      refine lv_aload_n hx hb dX9_ask_132 rfl (lv_at hl 0 rfl) ?_
      obtain ⟨q17, g17, hf⟩ := ob hf
      refine r_getr C0 hH fl_X9_29 g17 dX9_ask_133 ?_
      refine lv_sipush (v := (155 : Int32)) hx hb dX9_ask_136 (by decide) ?_
      refine lv_iload hx hb dX9_ask_139 (lv_at hl 7 rfl) ?_
      refine lv_imul hx hb dX9_ask_141 ?_
      refine lv_iload hx hb dX9_ask_142 (lv_at hl 5 rfl) ?_
      refine lv_iadd hx hb dX9_ask_144 ?_
      obtain ⟨g18, hf⟩ := gd hf
      refine r_iald C0 hH g18 dX9_ask_145 ?_
      refine lv_aload_n hx hb dX9_ask_146 rfl (lv_at hl 0 rfl) ?_
      refine r_getr C0 hH fl_X9_29 g17 dX9_ask_147 ?_
      refine lv_sipush (v := (155 : Int32)) hx hb dX9_ask_150 (by decide) ?_
      refine lv_iload hx hb dX9_ask_153 (lv_at hl 9 rfl) ?_
      refine lv_imul hx hb dX9_ask_155 ?_
      refine lv_iload hx hb dX9_ask_156 (lv_at hl 5 rfl) ?_
      refine lv_iadd hx hb dX9_ask_158 ?_
      obtain ⟨g19, hf⟩ := gd hf
      refine r_iald C0 hH g19 dX9_ask_159 ?_
      refine lv_icmp_ne (tgt := 167) hx hb dX9_ask_160 (by decide) (fun c20 => ?_) (fun c20 => ?_)
      · replace hf := ie hf c20
        refine lv_iconst (v := (0 : Int32)) hx hb dX9_ask_167 (by decide) ?_
        refine r_callSi (rest := [.int v9]) C0 hH (c_X9_flag Γ l Λ d (0 : Int32)) cs_X9_146 (by decide) rfl hl.1 rfl (Nat.le_of_ble_eq_true rfl) dX9_ask_168 (by decide) (fun H locs hH => ?_)
        refine lv_iadd hx hb dX9_ask_171 ?_
        refine lv_istore (lv' := [(9, .int (v9 + (f_X9_flag (0 : Int32)))), (0, .ref (Γ.2.2.1 + p0)), (2, .int v2), (3, .int v3), (4, .int v4), (5, .int v5), (6, .int v6), (7, .int v7), (8, .int v8), (10, .int v10)]) hx hb dX9_ask_172 hl (by decide) rfl (fun ls hl => ?_)
        refine lv_iinc (v := (v10 + (1 : Int32))) (lv' := [(10, .int (v10 + (1 : Int32))), (9, .int (v9 + (f_X9_flag (0 : Int32)))), (0, .ref (Γ.2.2.1 + p0)), (2, .int v2), (3, .int v3), (4, .int v4), (5, .int v5), (6, .int v6), (7, .int v7), (8, .int v8)]) hx hb dX9_ask_174 hl (k := 9) rfl (congrArg (fun w => v10 + w) (by decide)) (by decide) rfl (fun ls hl => ?_)
        refine lv_goto (tgt := 124) hx hb dX9_ask_177 (by decide) ?_
        exact ih (v9 + (f_X9_flag (0 : Int32))) (v10 + (1 : Int32)) hf _ _ _ hH (lv_sub hl [2, 3, 4, 5, 6, 7, 8, 9, 1, 0] rfl)
      · replace hf := it hf c20
        refine lv_iconst (v := (1 : Int32)) hx hb dX9_ask_163 (by decide) ?_
        refine lv_goto (tgt := 168) hx hb dX9_ask_164 (by decide) ?_
        refine r_callSi (rest := [.int v9]) C0 hH (c_X9_flag Γ l Λ d (1 : Int32)) cs_X9_146 (by decide) rfl hl.1 rfl (Nat.le_of_ble_eq_true rfl) dX9_ask_168 (by decide) (fun H locs hH => ?_)
        refine lv_iadd hx hb dX9_ask_171 ?_
        refine lv_istore (lv' := [(9, .int (v9 + (f_X9_flag (1 : Int32)))), (0, .ref (Γ.2.2.1 + p0)), (2, .int v2), (3, .int v3), (4, .int v4), (5, .int v5), (6, .int v6), (7, .int v7), (8, .int v8), (10, .int v10)]) hx hb dX9_ask_172 hl (by decide) rfl (fun ls hl => ?_)
        refine lv_iinc (v := (v10 + (1 : Int32))) (lv' := [(10, .int (v10 + (1 : Int32))), (9, .int (v9 + (f_X9_flag (1 : Int32)))), (0, .ref (Γ.2.2.1 + p0)), (2, .int v2), (3, .int v3), (4, .int v4), (5, .int v5), (6, .int v6), (7, .int v7), (8, .int v8)]) hx hb dX9_ask_174 hl (k := 9) rfl (congrArg (fun w => v10 + w) (by decide)) (by decide) rfl (fun ls hl => ?_)
        refine lv_goto (tgt := 124) hx hb dX9_ask_177 (by decide) ?_
        exact ih (v9 + (f_X9_flag (1 : Int32))) (v10 + (1 : Int32)) hf _ _ _ hH (lv_sub hl [2, 3, 4, 5, 6, 7, 8, 9, 1, 0] rfl)
set_option maxHeartbeats 4000000 in
set_option maxRecDepth 100000 in
theorem w_X9_ask_L112 {p : Program} {l : Launch} {e : Env} {s : State} {m : MethodId} {args : Array Value} {below : List Frame} {meth : Method} {c : Code} {Γ : Cx} {Λ : List Ly} {z : Int32 × Dt} {d : Dt} (C0 : Ct Γ p s m args c cX9_ask 11 "SeasonBoundModel") (hr : meth.sig.returnType = (some FieldType.int)) (hlocks : meth.locks = false) (k202 : Int32 → Int32 → Option (Int32 × Dt)) (p0 : Nat) (v2 : Int32) (v3 : Int32) (v4 : Int32) (v5 : Int32) (v6 : Int32)
    (hk202 : ∀ (v7 : Int32) (v8 : Int32), (k202 v7 v8 = some z) → ∀ (H : Heap) (locs : List Loc) (ls : Array Slot), Hs Γ Λ d s H locs → lv_has ls 11 [(0, .ref (Γ.2.2.1 + p0)), (2, .int v2), (3, .int v3), (4, .int v4), (5, .int v5), (6, .int v6), (7, .int v7), (8, .int v8)] → W p l e { frames := 6, cells := 0, slots := 0, locals := 134 } s m args below meth c H locs 0 0 (MQ below (QN Γ Λ z.2 (some (.int z.1))) args s 0 0 (AP Γ)) (F0 m 202 ls [])) :
    ∀ (n : Nat) (v7 : Int32) (v8 : Int32), f_X9_ask_L112 Λ d p0 v2 v3 v4 v5 v6 k202 n v7 v8 = some z → ∀ (H : Heap) (locs : List Loc) (ls : Array Slot), Hs Γ Λ d s H locs → lv_has ls 11 [(0, .ref (Γ.2.2.1 + p0)), (2, .int v2), (3, .int v3), (4, .int v4), (5, .int v5), (6, .int v6), (7, .int v7), (8, .int v8)] → W p l e { frames := 6, cells := 0, slots := 0, locals := 134 } s m args below meth c H locs 0 0 (MQ below (QN Γ Λ z.2 (some (.int z.1))) args s 0 0 (AP Γ)) (F0 m 112 ls []) := by
  obtain ⟨hx, hb, hml, hown, hts, hK⟩ := id C0
  intro n
  induction n with
  | zero =>
    intro v7 v8 hf
    cases hf
  | succ n ih =>
    intro v7 v8 hf H locs ls hH hl
    unfold f_X9_ask_L112 at hf
    refine lv_iload hx hb dX9_ask_112 (lv_at hl 7 rfl) ?_
    refine lv_iload_n hx hb dX9_ask_114 rfl (lv_at hl 2 rfl) ?_
    refine lv_icmp_ge (tgt := 202) hx hb dX9_ask_115 (by decide) (fun c15 => ?_) (fun c15 => ?_)
    · replace hf := it hf c15
      exact hk202 v7 v8 hf _ _ _ hH (lv_sub hl [0, 1, 2, 3, 4, 5, 6, 7] rfl)
    · replace hf := ie hf c15
      refine lv_iconst (v := (0 : Int32)) hx hb dX9_ask_118 (by decide) ?_
      refine lv_istore (lv' := [(9, .int (0 : Int32)), (0, .ref (Γ.2.2.1 + p0)), (2, .int v2), (3, .int v3), (4, .int v4), (5, .int v5), (6, .int v6), (7, .int v7), (8, .int v8)]) hx hb dX9_ask_119 hl (by decide) rfl (fun ls hl => ?_)
      refine lv_iconst (v := (0 : Int32)) hx hb dX9_ask_121 (by decide) ?_
      refine lv_istore (lv' := [(10, .int (0 : Int32)), (9, .int (0 : Int32)), (0, .ref (Γ.2.2.1 + p0)), (2, .int v2), (3, .int v3), (4, .int v4), (5, .int v5), (6, .int v6), (7, .int v7), (8, .int v8)]) hx hb dX9_ask_122 hl (by decide) rfl (fun ls hl => ?_)
      refine w_X9_ask_L124 C0 hr hlocks _ p0 v2 v3 v4 v5 v6 v7 v8 ?k180 FU (0 : Int32) (0 : Int32) hf _ _ _ hH (lv_sub hl [2, 3, 4, 5, 6, 7, 8, 9, 1, 0] rfl)
      case k180 =>
        intro x21_9 x21_10 hf H locs ls hH hl
        refine lv_iload hx hb dX9_ask_180 (lv_at hl 8 rfl) ?_
        refine lv_iload hx hb dX9_ask_182 (lv_at hl 6 rfl) ?_
        refine lv_icmp_le (tgt := 192) hx hb dX9_ask_184 (by decide) (fun c22 => ?_) (fun c22 => ?_)
        · replace hf := it hf c22
          refine lv_iload hx hb dX9_ask_192 (lv_at hl 6 rfl) ?_
          refine lv_istore (lv' := [(7, .int v7), (0, .ref (Γ.2.2.1 + p0)), (2, .int v2), (3, .int v3), (4, .int v4), (5, .int v5), (6, .int v6), (8, .int v8), (9, .int x21_9), (10, .int x21_10)]) hx hb dX9_ask_194 hl (by decide) rfl (fun ls hl => ?_)
          refine lv_iinc (v := (v8 + (1 : Int32))) (lv' := [(8, .int (v8 + (1 : Int32))), (7, .int v7), (0, .ref (Γ.2.2.1 + p0)), (2, .int v2), (3, .int v3), (4, .int v4), (5, .int v5), (6, .int v6), (9, .int x21_9), (10, .int x21_10)]) hx hb dX9_ask_196 hl (k := 7) rfl (congrArg (fun w => v8 + w) (by decide)) (by decide) rfl (fun ls hl => ?_)
          refine lv_goto (tgt := 112) hx hb dX9_ask_199 (by decide) ?_
          exact ih v7 (v8 + (1 : Int32)) hf _ _ _ hH (lv_sub hl [2, 3, 4, 5, 6, 7, 1, 0] rfl)
        · replace hf := ie hf c22
          refine lv_iload hx hb dX9_ask_187 (lv_at hl 8 rfl) ?_
          refine lv_goto (tgt := 194) hx hb dX9_ask_189 (by decide) ?_
          refine lv_istore (lv' := [(7, .int x21_9), (0, .ref (Γ.2.2.1 + p0)), (2, .int v2), (3, .int v3), (4, .int v4), (5, .int v5), (6, .int v6), (8, .int v8), (9, .int x21_9), (10, .int x21_10)]) hx hb dX9_ask_194 hl (by decide) rfl (fun ls hl => ?_)
          refine lv_iinc (v := (v8 + (1 : Int32))) (lv' := [(8, .int (v8 + (1 : Int32))), (7, .int x21_9), (0, .ref (Γ.2.2.1 + p0)), (2, .int v2), (3, .int v3), (4, .int v4), (5, .int v5), (6, .int v6), (9, .int x21_9), (10, .int x21_10)]) hx hb dX9_ask_196 hl (k := 7) rfl (congrArg (fun w => v8 + w) (by decide)) (by decide) rfl (fun ls hl => ?_)
          refine lv_goto (tgt := 112) hx hb dX9_ask_199 (by decide) ?_
          exact ih x21_9 (v8 + (1 : Int32)) hf _ _ _ hH (lv_sub hl [2, 3, 4, 5, 6, 7, 1, 0] rfl)
set_option maxHeartbeats 4000000 in
set_option maxRecDepth 100000 in
theorem w_X9_ask_L98 {p : Program} {l : Launch} {e : Env} {s : State} {m : MethodId} {args : Array Value} {below : List Frame} {meth : Method} {c : Code} {Γ : Cx} {Λ : List Ly} {z : Int32 × Dt} {d : Dt} (C0 : Ct Γ p s m args c cX9_ask 11 "SeasonBoundModel") (hr : meth.sig.returnType = (some FieldType.int)) (hlocks : meth.locks = false) (k237 : Int32 → Int32 → Int32 → Option (Int32 × Dt)) (p0 : Nat) (v2 : Int32) (v3 : Int32)
    (hk237 : ∀ (v4 : Int32) (v5 : Int32) (v6 : Int32), (k237 v4 v5 v6 = some z) → ∀ (H : Heap) (locs : List Loc) (ls : Array Slot), Hs Γ Λ d s H locs → lv_has ls 11 [(0, .ref (Γ.2.2.1 + p0)), (2, .int v2), (3, .int v3), (4, .int v4), (5, .int v5), (6, .int v6)] → W p l e { frames := 6, cells := 0, slots := 0, locals := 134 } s m args below meth c H locs 0 0 (MQ below (QN Γ Λ z.2 (some (.int z.1))) args s 0 0 (AP Γ)) (F0 m 237 ls [])) :
    ∀ (n : Nat) (v4 : Int32) (v5 : Int32) (v6 : Int32), f_X9_ask_L98 Λ d p0 v2 v3 k237 n v4 v5 v6 = some z → ∀ (H : Heap) (locs : List Loc) (ls : Array Slot), Hs Γ Λ d s H locs → lv_has ls 11 [(0, .ref (Γ.2.2.1 + p0)), (2, .int v2), (3, .int v3), (4, .int v4), (5, .int v5), (6, .int v6)] → W p l e { frames := 6, cells := 0, slots := 0, locals := 134 } s m args below meth c H locs 0 0 (MQ below (QN Γ Λ z.2 (some (.int z.1))) args s 0 0 (AP Γ)) (F0 m 98 ls []) := by
  obtain ⟨hx, hb, hml, hown, hts, hK⟩ := id C0
  intro n
  induction n with
  | zero =>
    intro v4 v5 v6 hf
    cases hf
  | succ n ih =>
    intro v4 v5 v6 hf H locs ls hH hl
    unfold f_X9_ask_L98 at hf
    refine lv_iload hx hb dX9_ask_98 (lv_at hl 5 rfl) ?_
    refine lv_sipush (v := (155 : Int32)) hx hb dX9_ask_100 (by decide) ?_
    refine lv_icmp_ge (tgt := 237) hx hb dX9_ask_103 (by decide) (fun c14 => ?_) (fun c14 => ?_)
    · replace hf := it hf c14
      exact hk237 v4 v5 v6 hf _ _ _ hH (lv_sub hl [0, 1, 2, 3, 4, 5] rfl)
    · replace hf := ie hf c14
      refine lv_iconst (v := (0 : Int32)) hx hb dX9_ask_106 (by decide) ?_
      refine lv_istore (lv' := [(7, .int (0 : Int32)), (0, .ref (Γ.2.2.1 + p0)), (2, .int v2), (3, .int v3), (4, .int v4), (5, .int v5), (6, .int v6)]) hx hb dX9_ask_107 hl (by decide) rfl (fun ls hl => ?_)
      refine lv_iconst (v := (0 : Int32)) hx hb dX9_ask_109 (by decide) ?_
      refine lv_istore (lv' := [(8, .int (0 : Int32)), (7, .int (0 : Int32)), (0, .ref (Γ.2.2.1 + p0)), (2, .int v2), (3, .int v3), (4, .int v4), (5, .int v5), (6, .int v6)]) hx hb dX9_ask_110 hl (by decide) rfl (fun ls hl => ?_)
      refine w_X9_ask_L112 C0 hr hlocks _ p0 v2 v3 v4 v5 v6 ?k202 FU (0 : Int32) (0 : Int32) hf _ _ _ hH (lv_sub hl [2, 3, 4, 5, 6, 7, 1, 0] rfl)
      case k202 =>
        intro x23_7 x23_8 hf H locs ls hH hl
        refine lv_iload hx hb dX9_ask_202 (lv_at hl 5 rfl) ?_
        refine lv_iconst (v := (5 : Int32)) hx hb dX9_ask_204 (by decide) ?_
        refine lv_irem hx hb dX9_ask_205 (by decide) ?_
        refine lv_aload_n hx hb dX9_ask_206 rfl (lv_at hl 0 rfl) ?_
        obtain ⟨q24, g24, hf⟩ := ob hf
        refine r_getr C0 hH fl_X9_7 g24 dX9_ask_207 ?_
        refine lv_bipush (v := (37 : Int32)) hx hb dX9_ask_210 (by decide) ?_
        obtain ⟨g25, hf⟩ := gd hf
        refine r_iald C0 hH g25 dX9_ask_212 ?_
        refine lv_icmp_ge (tgt := 231) hx hb dX9_ask_213 (by decide) (fun c26 => ?_) (fun c26 => ?_)
        · replace hf := it hf c26
          refine lv_iinc (v := (v6 + (1 : Int32))) (lv' := [(6, .int (v6 + (1 : Int32))), (0, .ref (Γ.2.2.1 + p0)), (2, .int v2), (3, .int v3), (4, .int v4), (5, .int v5), (7, .int x23_7), (8, .int x23_8)]) hx hb dX9_ask_231 hl (k := 5) rfl (congrArg (fun w => v6 + w) (by decide)) (by decide) rfl (fun ls hl => ?_)
          refine lv_goto (tgt := 98) hx hb dX9_ask_234 (by decide) ?_
          exact ih v4 v5 (v6 + (1 : Int32)) hf _ _ _ hH (lv_sub hl [1, 2, 3, 4, 5, 0] rfl)
        · replace hf := ie hf c26
          refine lv_iload hx hb dX9_ask_216 (lv_at hl 6 rfl) ?_
          refine lv_iload hx hb dX9_ask_218 (lv_at hl 3 rfl) ?_
          refine lv_icmp_ge (tgt := 231) hx hb dX9_ask_220 (by decide) (fun c27 => ?_) (fun c27 => ?_)
          · replace hf := it hf c27
            refine lv_iinc (v := (v6 + (1 : Int32))) (lv' := [(6, .int (v6 + (1 : Int32))), (0, .ref (Γ.2.2.1 + p0)), (2, .int v2), (3, .int v3), (4, .int v4), (5, .int v5), (7, .int x23_7), (8, .int x23_8)]) hx hb dX9_ask_231 hl (k := 5) rfl (congrArg (fun w => v6 + w) (by decide)) (by decide) rfl (fun ls hl => ?_)
            refine lv_goto (tgt := 98) hx hb dX9_ask_234 (by decide) ?_
            exact ih v4 v5 (v6 + (1 : Int32)) hf _ _ _ hH (lv_sub hl [1, 2, 3, 4, 5, 0] rfl)
          · replace hf := ie hf c27
            refine lv_iload hx hb dX9_ask_223 (lv_at hl 6 rfl) ?_
            refine lv_istore (lv' := [(4, .int x23_7), (0, .ref (Γ.2.2.1 + p0)), (2, .int v2), (3, .int v3), (5, .int v5), (6, .int v6), (7, .int x23_7), (8, .int x23_8)]) hx hb dX9_ask_225 hl (by decide) rfl (fun ls hl => ?_)
            refine lv_iload hx hb dX9_ask_227 (lv_at hl 5 rfl) ?_
            refine lv_istore (lv' := [(5, .int v6), (4, .int x23_7), (0, .ref (Γ.2.2.1 + p0)), (2, .int v2), (3, .int v3), (6, .int v6), (7, .int x23_7), (8, .int x23_8)]) hx hb dX9_ask_229 hl (by decide) rfl (fun ls hl => ?_)
            refine lv_iinc (v := (v6 + (1 : Int32))) (lv' := [(6, .int (v6 + (1 : Int32))), (5, .int v6), (4, .int x23_7), (0, .ref (Γ.2.2.1 + p0)), (2, .int v2), (3, .int v3), (7, .int x23_7), (8, .int x23_8)]) hx hb dX9_ask_231 hl (k := 5) rfl (congrArg (fun w => v6 + w) (by decide)) (by decide) rfl (fun ls hl => ?_)
            refine lv_goto (tgt := 98) hx hb dX9_ask_234 (by decide) ?_
            exact ih x23_7 v6 (v6 + (1 : Int32)) hf _ _ _ hH (lv_sub hl [3, 4, 5, 2, 1, 0] rfl)
set_option maxHeartbeats 4000000 in
set_option maxRecDepth 100000 in
theorem c_X9_ask (Γ : Cx) (l : Launch) (Λ : List Ly) (d : Dt) (p0 : Nat) (v1 : Int32) (v2 : Int32) (z : Int32 × Dt) (hf : f_X9_ask Λ d p0 v1 v2 = some z) : Cn Γ l yX9_ask cX9_ask 11 (some FieldType.int) 6 134 [.ref (Γ.2.2.1 + p0), .int v1, .int v2] Λ d (some (.int z.1)) z.2 := by
  refine Cn.of (own := "SeasonBoundModel") (by decide +kernel) rfl (Nat.le_of_ble_eq_true rfl) ?_
  intro p e s m below meth c C0 hr hlocks hH ls hl
  have hl : lv_has ls 11 [(0, .ref (Γ.2.2.1 + p0)), (1, .int v1), (2, .int v2)] := hl
  obtain ⟨hx, hb, hml, hown, hts, hK⟩ := id C0
  unfold f_X9_ask at hf
  refine lv_iload_n hx hb dX9_ask_0 rfl (lv_at hl 1 rfl) ?_
  refine r_callSi (rest := []) C0 hH (c_X9_isSeason Γ l Λ d v1) cs_X9_185 (by decide) rfl hl.1 rfl (Nat.le_of_ble_eq_true rfl) dX9_ask_1 (by decide) (fun H locs hH => ?_)
  refine lv_if_eq (tgt := 14) hx hb dX9_ask_4 (by decide) (fun c1 => ?_) (fun c1 => ?_)
  · replace hf := it hf c1
    refine lv_iconst (v := (-1 : Int32)) hx hb dX9_ask_14 (by decide) ?_
    obtain rfl := Option.some.inj hf
    exact r_iret (d' := d) C0 hr hlocks hH rfl dX9_ask_15
  · replace hf := ie hf c1
    refine lv_iload_n hx hb dX9_ask_7 rfl (lv_at hl 2 rfl) ?_
    refine r_callSi (rest := []) C0 hH (c_X9_isPart Γ l Λ d v2) cs_X9_228 (by decide) rfl hl.1 rfl (Nat.le_of_ble_eq_true rfl) dX9_ask_8 (by decide) (fun H locs hH => ?_)
    refine lv_if_ne (tgt := 16) hx hb dX9_ask_11 (by decide) (fun c2 => ?_) (fun c2 => ?_)
    · replace hf := ie hf c2
      refine lv_iconst (v := (0 : Int32)) hx hb dX9_ask_16 (by decide) ?_
      refine lv_istore_n (lv' := [(3, .int (0 : Int32)), (0, .ref (Γ.2.2.1 + p0)), (1, .int v1), (2, .int v2)]) hx hb dX9_ask_17 rfl hl (by decide) rfl (fun ls hl => ?_)
      refine lv_iconst (v := (0 : Int32)) hx hb dX9_ask_18 (by decide) ?_
      refine lv_istore (lv' := [(4, .int (0 : Int32)), (3, .int (0 : Int32)), (0, .ref (Γ.2.2.1 + p0)), (1, .int v1), (2, .int v2)]) hx hb dX9_ask_19 hl (by decide) rfl (fun ls hl => ?_)
      refine w_X9_ask_L21 C0 hr hlocks _ p0 v1 v2 ?k88 FU (0 : Int32) (0 : Int32) d hf _ _ _ hH (lv_sub hl [2, 3, 4, 1, 0] rfl)
      case k88 =>
        intro x13_3 x13_4 d13 hf H locs ls hH hl
        refine lv_iload_n hx hb dX9_ask_88 rfl (lv_at hl 3 rfl) ?_
        refine lv_istore (lv' := [(4, .int x13_3), (0, .ref (Γ.2.2.1 + p0)), (1, .int v1), (2, .int v2), (3, .int x13_3)]) hx hb dX9_ask_89 hl (by decide) rfl (fun ls hl => ?_)
        refine lv_bipush (v := (-4 : Int32)) hx hb dX9_ask_91 (by decide) ?_
        refine lv_istore (lv' := [(5, .int (-4 : Int32)), (4, .int x13_3), (0, .ref (Γ.2.2.1 + p0)), (1, .int v1), (2, .int v2), (3, .int x13_3)]) hx hb dX9_ask_93 hl (by decide) rfl (fun ls hl => ?_)
        refine lv_iconst (v := (0 : Int32)) hx hb dX9_ask_95 (by decide) ?_
        refine lv_istore (lv' := [(6, .int (0 : Int32)), (5, .int (-4 : Int32)), (4, .int x13_3), (0, .ref (Γ.2.2.1 + p0)), (1, .int v1), (2, .int v2), (3, .int x13_3)]) hx hb dX9_ask_96 hl (by decide) rfl (fun ls hl => ?_)
        refine w_X9_ask_L98 C0 hr hlocks _ p0 v2 x13_3 ?k237 FU x13_3 (-4 : Int32) (0 : Int32) hf _ _ _ hH (lv_sub hl [3, 5, 6, 2, 1, 0] rfl)
        case k237 =>
          intro x28_4 x28_5 x28_6 hf H locs ls hH hl
          refine lv_iload hx hb dX9_ask_237 (lv_at hl 4 rfl) ?_
          refine lv_bipush (v := (-4 : Int32)) hx hb dX9_ask_239 (by decide) ?_
          refine lv_icmp_ne (tgt := 249) hx hb dX9_ask_241 (by decide) (fun c29 => ?_) (fun c29 => ?_)
          · replace hf := ie hf c29
            refine lv_iload_n hx hb dX9_ask_249 rfl (lv_at hl 1 rfl) ?_
            refine lv_if_ne (tgt := 268) hx hb dX9_ask_250 (by decide) (fun c30 => ?_) (fun c30 => ?_)
            · replace hf := ie hf c30
              refine lv_iload hx hb dX9_ask_268 (lv_at hl 3 rfl) ?_
              obtain rfl := Option.some.inj hf
              exact r_iret (d' := d) C0 hr hlocks hH rfl dX9_ask_270
            · replace hf := it hf c30
              refine lv_bipush (v := (10 : Int32)) hx hb dX9_ask_253 (by decide) ?_
              refine lv_iload hx hb dX9_ask_255 (lv_at hl 4 rfl) ?_
              refine lv_iconst (v := (5 : Int32)) hx hb dX9_ask_257 (by decide) ?_
              refine lv_idiv hx hb dX9_ask_258 (by decide) ?_
              refine lv_imul hx hb dX9_ask_259 ?_
              refine lv_iload hx hb dX9_ask_260 (lv_at hl 4 rfl) ?_
              refine lv_iconst (v := (5 : Int32)) hx hb dX9_ask_262 (by decide) ?_
              refine lv_irem hx hb dX9_ask_263 (by decide) ?_
              refine lv_iadd hx hb dX9_ask_264 ?_
              refine lv_goto (tgt := 270) hx hb dX9_ask_265 (by decide) ?_
              obtain rfl := Option.some.inj hf
              exact r_iret (d' := d) C0 hr hlocks hH rfl dX9_ask_270
          · replace hf := it hf c29
            refine lv_bipush (v := (-4 : Int32)) hx hb dX9_ask_244 (by decide) ?_
            refine lv_goto (tgt := 270) hx hb dX9_ask_246 (by decide) ?_
            obtain rfl := Option.some.inj hf
            exact r_iret (d' := d) C0 hr hlocks hH rfl dX9_ask_270
    · replace hf := it hf c2
      refine lv_iconst (v := (-1 : Int32)) hx hb dX9_ask_14 (by decide) ?_
      obtain rfl := Option.some.inj hf
      exact r_iret (d' := d) C0 hr hlocks hH rfl dX9_ask_15
theorem dX9_drift_0 : decode cX9_drift 0 = .ok (.iload_n 2, 1) := by decide +kernel
theorem dX9_drift_1 : decode cX9_drift 1 = .ok (.i2l, 1) := by decide +kernel
theorem dX9_drift_2 : decode cX9_drift 2 = .ok (.lconst 1, 1) := by decide +kernel
theorem dX9_drift_3 : decode cX9_drift 3 = .ok (.ldc2_w 210, 3) := by decide +kernel
theorem dX9_drift_6 : decode cX9_drift 6 = .ok (.invokestatic 56, 3) := by decide +kernel
theorem dX9_drift_9 : decode cX9_drift 9 = .ok (.ifCond .eq 10, 3) := by decide +kernel
theorem dX9_drift_12 : decode cX9_drift 12 = .ok (.iload_n 3, 1) := by decide +kernel
theorem dX9_drift_13 : decode cX9_drift 13 = .ok (.invokestatic 228, 3) := by decide +kernel
theorem dX9_drift_16 : decode cX9_drift 16 = .ok (.ifCond .ne 5, 3) := by decide +kernel
theorem dX9_drift_19 : decode cX9_drift 19 = .ok (.iconst (-1), 1) := by decide +kernel
theorem dX9_drift_20 : decode cX9_drift 20 = .ok (.ireturn, 1) := by decide +kernel
theorem dX9_drift_21 : decode cX9_drift 21 = .ok (.aload_n 0, 1) := by decide +kernel
theorem dX9_drift_22 : decode cX9_drift 22 = .ok (.getfield 7, 3) := by decide +kernel
theorem dX9_drift_25 : decode cX9_drift 25 = .ok (.bipush 37, 2) := by decide +kernel
theorem dX9_drift_27 : decode cX9_drift 27 = .ok (.iaload, 1) := by decide +kernel
theorem dX9_drift_28 : decode cX9_drift 28 = .ok (.ifCond .ne 6, 3) := by decide +kernel
theorem dX9_drift_31 : decode cX9_drift 31 = .ok (.bipush (-2), 2) := by decide +kernel
theorem dX9_drift_33 : decode cX9_drift 33 = .ok (.ireturn, 1) := by decide +kernel
theorem dX9_drift_34 : decode cX9_drift 34 = .ok (.iload_n 1, 1) := by decide +kernel
theorem dX9_drift_35 : decode cX9_drift 35 = .ok (.istore 4, 2) := by decide +kernel
theorem dX9_drift_37 : decode cX9_drift 37 = .ok (.aload_n 0, 1) := by decide +kernel
theorem dX9_drift_38 : decode cX9_drift 38 = .ok (.invokevirtual 177, 3) := by decide +kernel
theorem dX9_drift_41 : decode cX9_drift 41 = .ok (.iconst 0, 1) := by decide +kernel
theorem dX9_drift_42 : decode cX9_drift 42 = .ok (.istore 5, 2) := by decide +kernel
theorem dX9_drift_44 : decode cX9_drift 44 = .ok (.iload 5, 2) := by decide +kernel
theorem dX9_drift_46 : decode cX9_drift 46 = .ok (.iload_n 2, 1) := by decide +kernel
theorem dX9_drift_47 : decode cX9_drift 47 = .ok (.if_icmp .ge 89, 3) := by decide +kernel
theorem dX9_drift_50 : decode cX9_drift 50 = .ok (.iload 4, 2) := by decide +kernel
theorem dX9_drift_52 : decode cX9_drift 52 = .ok (.ldc_w 275, 3) := by decide +kernel
theorem dX9_drift_55 : decode cX9_drift 55 = .ok (.imul, 1) := by decide +kernel
theorem dX9_drift_56 : decode cX9_drift 56 = .ok (.sipush 12345, 3) := by decide +kernel
theorem dX9_drift_59 : decode cX9_drift 59 = .ok (.iadd, 1) := by decide +kernel
theorem dX9_drift_60 : decode cX9_drift 60 = .ok (.istore 4, 2) := by decide +kernel
theorem dX9_drift_62 : decode cX9_drift 62 = .ok (.iload 4, 2) := by decide +kernel
theorem dX9_drift_64 : decode cX9_drift 64 = .ok (.bipush 16, 2) := by decide +kernel
theorem dX9_drift_66 : decode cX9_drift 66 = .ok (.ishr, 1) := by decide +kernel
theorem dX9_drift_67 : decode cX9_drift 67 = .ok (.sipush 32767, 3) := by decide +kernel
theorem dX9_drift_70 : decode cX9_drift 70 = .ok (.iand, 1) := by decide +kernel
theorem dX9_drift_71 : decode cX9_drift 71 = .ok (.istore 6, 2) := by decide +kernel
theorem dX9_drift_73 : decode cX9_drift 73 = .ok (.iload 6, 2) := by decide +kernel
theorem dX9_drift_75 : decode cX9_drift 75 = .ok (.aload_n 0, 1) := by decide +kernel
theorem dX9_drift_76 : decode cX9_drift 76 = .ok (.getfield 7, 3) := by decide +kernel
theorem dX9_drift_79 : decode cX9_drift 79 = .ok (.bipush 37, 2) := by decide +kernel
theorem dX9_drift_81 : decode cX9_drift 81 = .ok (.iaload, 1) := by decide +kernel
theorem dX9_drift_82 : decode cX9_drift 82 = .ok (.irem, 1) := by decide +kernel
theorem dX9_drift_83 : decode cX9_drift 83 = .ok (.istore 7, 2) := by decide +kernel
theorem dX9_drift_85 : decode cX9_drift 85 = .ok (.aload_n 0, 1) := by decide +kernel
theorem dX9_drift_86 : decode cX9_drift 86 = .ok (.iload 7, 2) := by decide +kernel
theorem dX9_drift_88 : decode cX9_drift 88 = .ok (.invokevirtual 139, 3) := by decide +kernel
theorem dX9_drift_91 : decode cX9_drift 91 = .ok (.ifCond .eq 34, 3) := by decide +kernel
theorem dX9_drift_94 : decode cX9_drift 94 = .ok (.aload_n 0, 1) := by decide +kernel
theorem dX9_drift_95 : decode cX9_drift 95 = .ok (.iload 7, 2) := by decide +kernel
theorem dX9_drift_97 : decode cX9_drift 97 = .ok (.iconst 1, 1) := by decide +kernel
theorem dX9_drift_98 : decode cX9_drift 98 = .ok (.iload 6, 2) := by decide +kernel
theorem dX9_drift_100 : decode cX9_drift 100 = .ok (.bipush 8, 2) := by decide +kernel
theorem dX9_drift_102 : decode cX9_drift 102 = .ok (.idiv, 1) := by decide +kernel
theorem dX9_drift_103 : decode cX9_drift 103 = .ok (.iconst 4, 1) := by decide +kernel
theorem dX9_drift_104 : decode cX9_drift 104 = .ok (.irem, 1) := by decide +kernel
theorem dX9_drift_105 : decode cX9_drift 105 = .ok (.invokevirtual 153, 3) := by decide +kernel
theorem dX9_drift_108 : decode cX9_drift 108 = .ok (.aload_n 0, 1) := by decide +kernel
theorem dX9_drift_109 : decode cX9_drift 109 = .ok (.iload 7, 2) := by decide +kernel
theorem dX9_drift_111 : decode cX9_drift 111 = .ok (.iconst 2, 1) := by decide +kernel
theorem dX9_drift_112 : decode cX9_drift 112 = .ok (.iconst 1, 1) := by decide +kernel
theorem dX9_drift_113 : decode cX9_drift 113 = .ok (.iload 6, 2) := by decide +kernel
theorem dX9_drift_115 : decode cX9_drift 115 = .ok (.bipush 32, 2) := by decide +kernel
theorem dX9_drift_117 : decode cX9_drift 117 = .ok (.idiv, 1) := by decide +kernel
theorem dX9_drift_118 : decode cX9_drift 118 = .ok (.bipush 9, 2) := by decide +kernel
theorem dX9_drift_120 : decode cX9_drift 120 = .ok (.irem, 1) := by decide +kernel
theorem dX9_drift_121 : decode cX9_drift 121 = .ok (.iadd, 1) := by decide +kernel
theorem dX9_drift_122 : decode cX9_drift 122 = .ok (.invokevirtual 153, 3) := by decide +kernel
theorem dX9_drift_125 : decode cX9_drift 125 = .ok (.aload_n 0, 1) := by decide +kernel
theorem dX9_drift_126 : decode cX9_drift 126 = .ok (.iconst 0, 1) := by decide +kernel
theorem dX9_drift_127 : decode cX9_drift 127 = .ok (.invokevirtual 167, 3) := by decide +kernel
theorem dX9_drift_130 : decode cX9_drift 130 = .ok (.iinc 5 1, 3) := by decide +kernel
theorem dX9_drift_133 : decode cX9_drift 133 = .ok (.goto (-89), 3) := by decide +kernel
theorem dX9_drift_136 : decode cX9_drift 136 = .ok (.iload_n 3, 1) := by decide +kernel
theorem dX9_drift_137 : decode cX9_drift 137 = .ok (.ifCond .ne 11, 3) := by decide +kernel
theorem dX9_drift_140 : decode cX9_drift 140 = .ok (.aload_n 0, 1) := by decide +kernel
theorem dX9_drift_141 : decode cX9_drift 141 = .ok (.iconst 3, 1) := by decide +kernel
theorem dX9_drift_142 : decode cX9_drift 142 = .ok (.invokevirtual 174, 3) := by decide +kernel
theorem dX9_drift_145 : decode cX9_drift 145 = .ok (.goto 8, 3) := by decide +kernel
theorem dX9_drift_148 : decode cX9_drift 148 = .ok (.aload_n 0, 1) := by decide +kernel
theorem dX9_drift_149 : decode cX9_drift 149 = .ok (.iconst 4, 1) := by decide +kernel
theorem dX9_drift_150 : decode cX9_drift 150 = .ok (.invokevirtual 174, 3) := by decide +kernel
theorem dX9_drift_153 : decode cX9_drift 153 = .ok (.ireturn, 1) := by decide +kernel
def f_X9_drift_L44 (Λ : List Ly) (p0 : Nat) (v2 : Int32) (v3 : Int32) : Nat → Int32 → Int32 → Dt → Option (Int32 × Dt)
  | 0, _, _, _ => none
  | n + 1, v4, v5, d => if v2 ≤ v5 then (if v3 = 0 then (if clsAt Λ p0 = some 9 then (Option.bind (f_X9_sumOf Λ d p0 (3 : Int32)) fun z13 => some (z13, d)) else none) else (if clsAt Λ p0 = some 9 then (Option.bind (f_X9_sumOf Λ d p0 (4 : Int32)) fun z11 => some (z11, d)) else none)) else (Option.bind (rf Λ p0 9 0) fun q14 => if okA Λ q14 1 (37 : Int32) = true then (if ¬ (d.1 q14 ((37 : Int32)).toNatClampNeg) = 0 then (if clsAt Λ p0 = some 9 then (Option.bind (f_X9_isFree Λ d p0 (((((v4 * (1103515245 : Int32)) + (12345 : Int32)) >>> ((16 : Int32) &&& 31)) &&& (32767 : Int32)) - ((((v4 * (1103515245 : Int32)) + (12345 : Int32)) >>> ((16 : Int32) &&& 31)) &&& (32767 : Int32)) / (d.1 q14 ((37 : Int32)).toNatClampNeg) * (d.1 q14 ((37 : Int32)).toNatClampNeg))) fun z18 => if z18 = 0 then (Option.bind (f_X9_weekGoes Λ d p0 (0 : Int32)) fun z20 => f_X9_drift_L44 Λ p0 v2 v3 n ((v4 * (1103515245 : Int32)) + (12345 : Int32)) (v5 + (1 : Int32)) z20) else (Option.bind (f_X9_becomesOf Λ d p0 (((((v4 * (1103515245 : Int32)) + (12345 : Int32)) >>> ((16 : Int32) &&& 31)) &&& (32767 : Int32)) - ((((v4 * (1103515245 : Int32)) + (12345 : Int32)) >>> ((16 : Int32) &&& 31)) &&& (32767 : Int32)) / (d.1 q14 ((37 : Int32)).toNatClampNeg) * (d.1 q14 ((37 : Int32)).toNatClampNeg)) (1 : Int32) ((((((v4 * (1103515245 : Int32)) + (12345 : Int32)) >>> ((16 : Int32) &&& 31)) &&& (32767 : Int32)) / (8 : Int32)) - (((((v4 * (1103515245 : Int32)) + (12345 : Int32)) >>> ((16 : Int32) &&& 31)) &&& (32767 : Int32)) / (8 : Int32)) / (4 : Int32) * (4 : Int32))) fun z21 => Option.bind (f_X9_becomesOf Λ z21 p0 (((((v4 * (1103515245 : Int32)) + (12345 : Int32)) >>> ((16 : Int32) &&& 31)) &&& (32767 : Int32)) - ((((v4 * (1103515245 : Int32)) + (12345 : Int32)) >>> ((16 : Int32) &&& 31)) &&& (32767 : Int32)) / (d.1 q14 ((37 : Int32)).toNatClampNeg) * (d.1 q14 ((37 : Int32)).toNatClampNeg)) (2 : Int32) ((1 : Int32) + ((((((v4 * (1103515245 : Int32)) + (12345 : Int32)) >>> ((16 : Int32) &&& 31)) &&& (32767 : Int32)) / (32 : Int32)) - (((((v4 * (1103515245 : Int32)) + (12345 : Int32)) >>> ((16 : Int32) &&& 31)) &&& (32767 : Int32)) / (32 : Int32)) / (9 : Int32) * (9 : Int32)))) fun z22 => Option.bind (f_X9_weekGoes Λ z22 p0 (0 : Int32)) fun z23 => f_X9_drift_L44 Λ p0 v2 v3 n ((v4 * (1103515245 : Int32)) + (12345 : Int32)) (v5 + (1 : Int32)) z23)) else none) else none) else none)
def f_X9_drift (Λ : List Ly) (d : Dt) (p0 : Nat) (v1 : Int32) (v2 : Int32) (v3 : Int32) : Option (Int32 × Dt) := if (f_X9_in (v2).toInt64 (1 : Int64) (60 : Int64)) = 0 then (some ((-1 : Int32), d)) else (if (f_X9_isPart v3) = 0 then (some ((-1 : Int32), d)) else (Option.bind (rf Λ p0 9 0) fun q3 => if okA Λ q3 1 (37 : Int32) = true then (if (d.1 q3 ((37 : Int32)).toNatClampNeg) = 0 then (some ((-2 : Int32), d)) else (if clsAt Λ p0 = some 9 then (Option.bind (f_X9_starts Λ d p0) fun z7 => f_X9_drift_L44 Λ p0 v2 v3 FU v1 (0 : Int32) z7) else none)) else none))
set_option maxHeartbeats 4000000 in
set_option maxRecDepth 100000 in
theorem w_X9_drift_L44 {p : Program} {l : Launch} {e : Env} {s : State} {m : MethodId} {args : Array Value} {below : List Frame} {meth : Method} {c : Code} {Γ : Cx} {Λ : List Ly} {z : Int32 × Dt} (C0 : Ct Γ p s m args c cX9_drift 8 "SeasonBoundModel") (hr : meth.sig.returnType = (some FieldType.int)) (hlocks : meth.locks = false) (p0 : Nat) (v2 : Int32) (v3 : Int32) :
    ∀ (n : Nat) (v4 : Int32) (v5 : Int32) (d : Dt), f_X9_drift_L44 Λ p0 v2 v3 n v4 v5 d = some z → ∀ (H : Heap) (locs : List Loc) (ls : Array Slot), Hs Γ Λ d s H locs → lv_has ls 8 [(0, .ref (Γ.2.2.1 + p0)), (2, .int v2), (3, .int v3), (4, .int v4), (5, .int v5)] → W p l e { frames := 5, cells := 0, slots := 0, locals := 109 } s m args below meth c H locs 0 0 (MQ below (QN Γ Λ z.2 (some (.int z.1))) args s 0 0 (AP Γ)) (F0 m 44 ls []) := by
  obtain ⟨hx, hb, hml, hown, hts, hK⟩ := id C0
  intro n
  induction n with
  | zero =>
    intro v4 v5 d hf
    cases hf
  | succ n ih =>
    intro v4 v5 d hf H locs ls hH hl
    unfold f_X9_drift_L44 at hf
    refine lv_iload hx hb dX9_drift_44 (lv_at hl 4 rfl) ?_
    refine lv_iload_n hx hb dX9_drift_46 rfl (lv_at hl 1 rfl) ?_
    refine lv_icmp_ge (tgt := 136) hx hb dX9_drift_47 (by decide) (fun c8 => ?_) (fun c8 => ?_)
    · replace hf := it hf c8
      refine lv_iload_n hx hb dX9_drift_136 rfl (lv_at hl 2 rfl) ?_
      refine lv_if_ne (tgt := 148) hx hb dX9_drift_137 (by decide) (fun c9 => ?_) (fun c9 => ?_)
      · replace hf := ie hf c9
        refine lv_aload_n hx hb dX9_drift_148 rfl (lv_at hl 0 rfl) ?_
        refine lv_iconst (v := (4 : Int32)) hx hb dX9_drift_149 (by decide) ?_
        obtain ⟨g10, hf⟩ := gd hf
        obtain ⟨z11, h11, hf⟩ := ob hf
        refine r_callVi (rest := []) C0 hH (c_X9_sumOf Γ l Λ d p0 (4 : Int32) z11 h11) cv_X9_174 g10 (by decide) rfl hl.1 rfl (Nat.le_of_ble_eq_true rfl) dX9_drift_150 (by decide) (fun H locs hH => ?_)
        obtain rfl := Option.some.inj hf
        exact r_iret (d' := d) C0 hr hlocks hH rfl dX9_drift_153
      · replace hf := it hf c9
        refine lv_aload_n hx hb dX9_drift_140 rfl (lv_at hl 0 rfl) ?_
        refine lv_iconst (v := (3 : Int32)) hx hb dX9_drift_141 (by decide) ?_
        obtain ⟨g12, hf⟩ := gd hf
        obtain ⟨z13, h13, hf⟩ := ob hf
        refine r_callVi (rest := []) C0 hH (c_X9_sumOf Γ l Λ d p0 (3 : Int32) z13 h13) cv_X9_174 g12 (by decide) rfl hl.1 rfl (Nat.le_of_ble_eq_true rfl) dX9_drift_142 (by decide) (fun H locs hH => ?_)
        refine lv_goto (tgt := 153) hx hb dX9_drift_145 (by decide) ?_
        obtain rfl := Option.some.inj hf
        exact r_iret (d' := d) C0 hr hlocks hH rfl dX9_drift_153
    · replace hf := ie hf c8
      refine lv_iload hx hb dX9_drift_50 (lv_at hl 3 rfl) ?_
      refine lv_ldcw hx hb hown (hts _ kc_X9_275) dX9_drift_52 ?_
      refine lv_imul hx hb dX9_drift_55 ?_
      refine lv_sipush (v := (12345 : Int32)) hx hb dX9_drift_56 (by decide) ?_
      refine lv_iadd hx hb dX9_drift_59 ?_
      refine lv_istore (lv' := [(4, .int ((v4 * (1103515245 : Int32)) + (12345 : Int32))), (0, .ref (Γ.2.2.1 + p0)), (2, .int v2), (3, .int v3), (5, .int v5)]) hx hb dX9_drift_60 hl (by decide) rfl (fun ls hl => ?_)
      refine lv_iload hx hb dX9_drift_62 (lv_at hl 0 rfl) ?_
      refine lv_bipush (v := (16 : Int32)) hx hb dX9_drift_64 (by decide) ?_
      refine lv_ishr hx hb dX9_drift_66 ?_
      refine lv_sipush (v := (32767 : Int32)) hx hb dX9_drift_67 (by decide) ?_
      refine lv_iand hx hb dX9_drift_70 ?_
      refine lv_istore (lv' := [(6, .int ((((v4 * (1103515245 : Int32)) + (12345 : Int32)) >>> ((16 : Int32) &&& 31)) &&& (32767 : Int32))), (4, .int ((v4 * (1103515245 : Int32)) + (12345 : Int32))), (0, .ref (Γ.2.2.1 + p0)), (2, .int v2), (3, .int v3), (5, .int v5)]) hx hb dX9_drift_71 hl (by decide) rfl (fun ls hl => ?_)
      refine lv_iload hx hb dX9_drift_73 (lv_at hl 0 rfl) ?_
      refine lv_aload_n hx hb dX9_drift_75 rfl (lv_at hl 2 rfl) ?_
      obtain ⟨q14, g14, hf⟩ := ob hf
      refine r_getr C0 hH fl_X9_7 g14 dX9_drift_76 ?_
      refine lv_bipush (v := (37 : Int32)) hx hb dX9_drift_79 (by decide) ?_
      obtain ⟨g15, hf⟩ := gd hf
      refine r_iald C0 hH g15 dX9_drift_81 ?_
      obtain ⟨g16, hf⟩ := gd hf
      refine lv_irem hx hb dX9_drift_82 g16 ?_
      refine lv_istore (lv' := [(7, .int (((((v4 * (1103515245 : Int32)) + (12345 : Int32)) >>> ((16 : Int32) &&& 31)) &&& (32767 : Int32)) - ((((v4 * (1103515245 : Int32)) + (12345 : Int32)) >>> ((16 : Int32) &&& 31)) &&& (32767 : Int32)) / (d.1 q14 ((37 : Int32)).toNatClampNeg) * (d.1 q14 ((37 : Int32)).toNatClampNeg))), (6, .int ((((v4 * (1103515245 : Int32)) + (12345 : Int32)) >>> ((16 : Int32) &&& 31)) &&& (32767 : Int32))), (4, .int ((v4 * (1103515245 : Int32)) + (12345 : Int32))), (0, .ref (Γ.2.2.1 + p0)), (2, .int v2), (3, .int v3), (5, .int v5)]) hx hb dX9_drift_83 hl (by decide) rfl (fun ls hl => ?_)
      refine lv_aload_n hx hb dX9_drift_85 rfl (lv_at hl 3 rfl) ?_
      refine lv_iload hx hb dX9_drift_86 (lv_at hl 0 rfl) ?_
      obtain ⟨g17, hf⟩ := gd hf
      obtain ⟨z18, h18, hf⟩ := ob hf
      refine r_callVi (rest := []) C0 hH (c_X9_isFree Γ l Λ d p0 (((((v4 * (1103515245 : Int32)) + (12345 : Int32)) >>> ((16 : Int32) &&& 31)) &&& (32767 : Int32)) - ((((v4 * (1103515245 : Int32)) + (12345 : Int32)) >>> ((16 : Int32) &&& 31)) &&& (32767 : Int32)) / (d.1 q14 ((37 : Int32)).toNatClampNeg) * (d.1 q14 ((37 : Int32)).toNatClampNeg)) z18 h18) cv_X9_139 g17 (by decide) rfl hl.1 rfl (Nat.le_of_ble_eq_true rfl) dX9_drift_88 (by decide) (fun H locs hH => ?_)
      refine lv_if_eq (tgt := 125) hx hb dX9_drift_91 (by decide) (fun c19 => ?_) (fun c19 => ?_)
      · replace hf := it hf c19
        refine lv_aload_n hx hb dX9_drift_125 rfl (lv_at hl 3 rfl) ?_
        refine lv_iconst (v := (0 : Int32)) hx hb dX9_drift_126 (by decide) ?_
        obtain ⟨z20, h20, hf⟩ := ob hf
        refine r_callVv (rest := []) C0 hH (c_X9_weekGoes Γ l Λ d p0 (0 : Int32) z20 h20) cv_X9_167 g17 (by decide) rfl hl.1 rfl (Nat.le_of_ble_eq_true rfl) dX9_drift_127 (by decide) (fun H locs hH => ?_)
        refine lv_iinc (v := (v5 + (1 : Int32))) (lv' := [(5, .int (v5 + (1 : Int32))), (7, .int (((((v4 * (1103515245 : Int32)) + (12345 : Int32)) >>> ((16 : Int32) &&& 31)) &&& (32767 : Int32)) - ((((v4 * (1103515245 : Int32)) + (12345 : Int32)) >>> ((16 : Int32) &&& 31)) &&& (32767 : Int32)) / (d.1 q14 ((37 : Int32)).toNatClampNeg) * (d.1 q14 ((37 : Int32)).toNatClampNeg))), (6, .int ((((v4 * (1103515245 : Int32)) + (12345 : Int32)) >>> ((16 : Int32) &&& 31)) &&& (32767 : Int32))), (4, .int ((v4 * (1103515245 : Int32)) + (12345 : Int32))), (0, .ref (Γ.2.2.1 + p0)), (2, .int v2), (3, .int v3)]) hx hb dX9_drift_130 hl (k := 6) rfl (congrArg (fun w => v5 + w) (by decide)) (by decide) rfl (fun ls hl => ?_)
        refine lv_goto (tgt := 44) hx hb dX9_drift_133 (by decide) ?_
        exact ih ((v4 * (1103515245 : Int32)) + (12345 : Int32)) (v5 + (1 : Int32)) z20 hf _ _ _ hH (lv_sub hl [4, 5, 6, 3, 0] rfl)
      · replace hf := ie hf c19
        refine lv_aload_n hx hb dX9_drift_94 rfl (lv_at hl 3 rfl) ?_
        refine lv_iload hx hb dX9_drift_95 (lv_at hl 0 rfl) ?_
        refine lv_iconst (v := (1 : Int32)) hx hb dX9_drift_97 (by decide) ?_
        refine lv_iload hx hb dX9_drift_98 (lv_at hl 1 rfl) ?_
        refine lv_bipush (v := (8 : Int32)) hx hb dX9_drift_100 (by decide) ?_
        refine lv_idiv hx hb dX9_drift_102 (by decide) ?_
        refine lv_iconst (v := (4 : Int32)) hx hb dX9_drift_103 (by decide) ?_
        refine lv_irem hx hb dX9_drift_104 (by decide) ?_
        obtain ⟨z21, h21, hf⟩ := ob hf
        refine r_callVv (rest := []) C0 hH (c_X9_becomesOf Γ l Λ d p0 (((((v4 * (1103515245 : Int32)) + (12345 : Int32)) >>> ((16 : Int32) &&& 31)) &&& (32767 : Int32)) - ((((v4 * (1103515245 : Int32)) + (12345 : Int32)) >>> ((16 : Int32) &&& 31)) &&& (32767 : Int32)) / (d.1 q14 ((37 : Int32)).toNatClampNeg) * (d.1 q14 ((37 : Int32)).toNatClampNeg)) (1 : Int32) ((((((v4 * (1103515245 : Int32)) + (12345 : Int32)) >>> ((16 : Int32) &&& 31)) &&& (32767 : Int32)) / (8 : Int32)) - (((((v4 * (1103515245 : Int32)) + (12345 : Int32)) >>> ((16 : Int32) &&& 31)) &&& (32767 : Int32)) / (8 : Int32)) / (4 : Int32) * (4 : Int32)) z21 h21) cv_X9_153 g17 (by decide) rfl hl.1 rfl (Nat.le_of_ble_eq_true rfl) dX9_drift_105 (by decide) (fun H locs hH => ?_)
        refine lv_aload_n hx hb dX9_drift_108 rfl (lv_at hl 3 rfl) ?_
        refine lv_iload hx hb dX9_drift_109 (lv_at hl 0 rfl) ?_
        refine lv_iconst (v := (2 : Int32)) hx hb dX9_drift_111 (by decide) ?_
        refine lv_iconst (v := (1 : Int32)) hx hb dX9_drift_112 (by decide) ?_
        refine lv_iload hx hb dX9_drift_113 (lv_at hl 1 rfl) ?_
        refine lv_bipush (v := (32 : Int32)) hx hb dX9_drift_115 (by decide) ?_
        refine lv_idiv hx hb dX9_drift_117 (by decide) ?_
        refine lv_bipush (v := (9 : Int32)) hx hb dX9_drift_118 (by decide) ?_
        refine lv_irem hx hb dX9_drift_120 (by decide) ?_
        refine lv_iadd hx hb dX9_drift_121 ?_
        obtain ⟨z22, h22, hf⟩ := ob hf
        refine r_callVv (rest := []) C0 hH (c_X9_becomesOf Γ l Λ z21 p0 (((((v4 * (1103515245 : Int32)) + (12345 : Int32)) >>> ((16 : Int32) &&& 31)) &&& (32767 : Int32)) - ((((v4 * (1103515245 : Int32)) + (12345 : Int32)) >>> ((16 : Int32) &&& 31)) &&& (32767 : Int32)) / (d.1 q14 ((37 : Int32)).toNatClampNeg) * (d.1 q14 ((37 : Int32)).toNatClampNeg)) (2 : Int32) ((1 : Int32) + ((((((v4 * (1103515245 : Int32)) + (12345 : Int32)) >>> ((16 : Int32) &&& 31)) &&& (32767 : Int32)) / (32 : Int32)) - (((((v4 * (1103515245 : Int32)) + (12345 : Int32)) >>> ((16 : Int32) &&& 31)) &&& (32767 : Int32)) / (32 : Int32)) / (9 : Int32) * (9 : Int32))) z22 h22) cv_X9_153 g17 (by decide) rfl hl.1 rfl (Nat.le_of_ble_eq_true rfl) dX9_drift_122 (by decide) (fun H locs hH => ?_)
        refine lv_aload_n hx hb dX9_drift_125 rfl (lv_at hl 3 rfl) ?_
        refine lv_iconst (v := (0 : Int32)) hx hb dX9_drift_126 (by decide) ?_
        obtain ⟨z23, h23, hf⟩ := ob hf
        refine r_callVv (rest := []) C0 hH (c_X9_weekGoes Γ l Λ z22 p0 (0 : Int32) z23 h23) cv_X9_167 g17 (by decide) rfl hl.1 rfl (Nat.le_of_ble_eq_true rfl) dX9_drift_127 (by decide) (fun H locs hH => ?_)
        refine lv_iinc (v := (v5 + (1 : Int32))) (lv' := [(5, .int (v5 + (1 : Int32))), (7, .int (((((v4 * (1103515245 : Int32)) + (12345 : Int32)) >>> ((16 : Int32) &&& 31)) &&& (32767 : Int32)) - ((((v4 * (1103515245 : Int32)) + (12345 : Int32)) >>> ((16 : Int32) &&& 31)) &&& (32767 : Int32)) / (d.1 q14 ((37 : Int32)).toNatClampNeg) * (d.1 q14 ((37 : Int32)).toNatClampNeg))), (6, .int ((((v4 * (1103515245 : Int32)) + (12345 : Int32)) >>> ((16 : Int32) &&& 31)) &&& (32767 : Int32))), (4, .int ((v4 * (1103515245 : Int32)) + (12345 : Int32))), (0, .ref (Γ.2.2.1 + p0)), (2, .int v2), (3, .int v3)]) hx hb dX9_drift_130 hl (k := 6) rfl (congrArg (fun w => v5 + w) (by decide)) (by decide) rfl (fun ls hl => ?_)
        refine lv_goto (tgt := 44) hx hb dX9_drift_133 (by decide) ?_
        exact ih ((v4 * (1103515245 : Int32)) + (12345 : Int32)) (v5 + (1 : Int32)) z23 hf _ _ _ hH (lv_sub hl [4, 5, 6, 3, 0] rfl)
set_option maxHeartbeats 4000000 in
set_option maxRecDepth 100000 in
theorem c_X9_drift (Γ : Cx) (l : Launch) (Λ : List Ly) (d : Dt) (p0 : Nat) (v1 : Int32) (v2 : Int32) (v3 : Int32) (z : Int32 × Dt) (hf : f_X9_drift Λ d p0 v1 v2 v3 = some z) : Cn Γ l yX9_drift cX9_drift 8 (some FieldType.int) 5 109 [.ref (Γ.2.2.1 + p0), .int v1, .int v2, .int v3] Λ d (some (.int z.1)) z.2 := by
  refine Cn.of (own := "SeasonBoundModel") (by decide +kernel) rfl (Nat.le_of_ble_eq_true rfl) ?_
  intro p e s m below meth c C0 hr hlocks hH ls hl
  have hl : lv_has ls 8 [(0, .ref (Γ.2.2.1 + p0)), (1, .int v1), (2, .int v2), (3, .int v3)] := hl
  obtain ⟨hx, hb, hml, hown, hts, hK⟩ := id C0
  unfold f_X9_drift at hf
  refine lv_iload_n hx hb dX9_drift_0 rfl (lv_at hl 2 rfl) ?_
  refine lv_i2l (v := (v2).toInt64) hx hb dX9_drift_1 rfl ?_
  refine lv_lconst (v := (1 : Int64)) hx hb dX9_drift_2 (by decide) ?_
  refine lv_ldc2 hx hb hown (hts _ kl_X9_210) dX9_drift_3 ?_
  refine r_callSi (rest := []) C0 hH (c_X9_in Γ l Λ d (v2).toInt64 (1 : Int64) (60 : Int64)) cs_X9_56 (by decide) rfl hl.1 rfl (Nat.le_of_ble_eq_true rfl) dX9_drift_6 (by decide) (fun H locs hH => ?_)
  refine lv_if_eq (tgt := 19) hx hb dX9_drift_9 (by decide) (fun c1 => ?_) (fun c1 => ?_)
  · replace hf := it hf c1
    refine lv_iconst (v := (-1 : Int32)) hx hb dX9_drift_19 (by decide) ?_
    obtain rfl := Option.some.inj hf
    exact r_iret (d' := d) C0 hr hlocks hH rfl dX9_drift_20
  · replace hf := ie hf c1
    refine lv_iload_n hx hb dX9_drift_12 rfl (lv_at hl 3 rfl) ?_
    refine r_callSi (rest := []) C0 hH (c_X9_isPart Γ l Λ d v3) cs_X9_228 (by decide) rfl hl.1 rfl (Nat.le_of_ble_eq_true rfl) dX9_drift_13 (by decide) (fun H locs hH => ?_)
    refine lv_if_ne (tgt := 21) hx hb dX9_drift_16 (by decide) (fun c2 => ?_) (fun c2 => ?_)
    · replace hf := ie hf c2
      refine lv_aload_n hx hb dX9_drift_21 rfl (lv_at hl 0 rfl) ?_
      obtain ⟨q3, g3, hf⟩ := ob hf
      refine r_getr C0 hH fl_X9_7 g3 dX9_drift_22 ?_
      refine lv_bipush (v := (37 : Int32)) hx hb dX9_drift_25 (by decide) ?_
      obtain ⟨g4, hf⟩ := gd hf
      refine r_iald C0 hH g4 dX9_drift_27 ?_
      refine lv_if_ne (tgt := 34) hx hb dX9_drift_28 (by decide) (fun c5 => ?_) (fun c5 => ?_)
      · replace hf := ie hf c5
        refine lv_iload_n hx hb dX9_drift_34 rfl (lv_at hl 1 rfl) ?_
        refine lv_istore (lv' := [(4, .int v1), (0, .ref (Γ.2.2.1 + p0)), (1, .int v1), (2, .int v2), (3, .int v3)]) hx hb dX9_drift_35 hl (by decide) rfl (fun ls hl => ?_)
        refine lv_aload_n hx hb dX9_drift_37 rfl (lv_at hl 1 rfl) ?_
        obtain ⟨g6, hf⟩ := gd hf
        obtain ⟨z7, h7, hf⟩ := ob hf
        refine r_callVv (rest := []) C0 hH (c_X9_starts Γ l Λ d p0 z7 h7) cv_X9_177 g6 (by decide) rfl hl.1 rfl (Nat.le_of_ble_eq_true rfl) dX9_drift_38 (by decide) (fun H locs hH => ?_)
        refine lv_iconst (v := (0 : Int32)) hx hb dX9_drift_41 (by decide) ?_
        refine lv_istore (lv' := [(5, .int (0 : Int32)), (4, .int v1), (0, .ref (Γ.2.2.1 + p0)), (1, .int v1), (2, .int v2), (3, .int v3)]) hx hb dX9_drift_42 hl (by decide) rfl (fun ls hl => ?_)
        refine w_X9_drift_L44 C0 hr hlocks p0 v2 v3 FU v1 (0 : Int32) z7 hf _ _ _ hH (lv_sub hl [2, 4, 5, 1, 0] rfl)
      · replace hf := it hf c5
        refine lv_bipush (v := (-2 : Int32)) hx hb dX9_drift_31 (by decide) ?_
        obtain rfl := Option.some.inj hf
        exact r_iret (d' := d) C0 hr hlocks hH rfl dX9_drift_33
    · replace hf := it hf c2
      refine lv_iconst (v := (-1 : Int32)) hx hb dX9_drift_19 (by decide) ?_
      obtain rfl := Option.some.inj hf
      exact r_iret (d' := d) C0 hr hlocks hH rfl dX9_drift_20
theorem dX9_copies_0 : decode cX9_copies 0 = .ok (.iconst 0, 1) := by decide +kernel
theorem dX9_copies_1 : decode cX9_copies 1 = .ok (.istore_n 3, 1) := by decide +kernel
theorem dX9_copies_2 : decode cX9_copies 2 = .ok (.iload_n 3, 1) := by decide +kernel
theorem dX9_copies_3 : decode cX9_copies 3 = .ok (.bipush 60, 2) := by decide +kernel
theorem dX9_copies_5 : decode cX9_copies 5 = .ok (.if_icmp .ge 25, 3) := by decide +kernel
theorem dX9_copies_8 : decode cX9_copies 8 = .ok (.aload_n 0, 1) := by decide +kernel
theorem dX9_copies_9 : decode cX9_copies 9 = .ok (.getfield 7, 3) := by decide +kernel
theorem dX9_copies_12 : decode cX9_copies 12 = .ok (.iload_n 1, 1) := by decide +kernel
theorem dX9_copies_13 : decode cX9_copies 13 = .ok (.iload_n 3, 1) := by decide +kernel
theorem dX9_copies_14 : decode cX9_copies 14 = .ok (.iadd, 1) := by decide +kernel
theorem dX9_copies_15 : decode cX9_copies 15 = .ok (.aload_n 0, 1) := by decide +kernel
theorem dX9_copies_16 : decode cX9_copies 16 = .ok (.getfield 7, 3) := by decide +kernel
theorem dX9_copies_19 : decode cX9_copies 19 = .ok (.iload_n 2, 1) := by decide +kernel
theorem dX9_copies_20 : decode cX9_copies 20 = .ok (.iload_n 3, 1) := by decide +kernel
theorem dX9_copies_21 : decode cX9_copies 21 = .ok (.iadd, 1) := by decide +kernel
theorem dX9_copies_22 : decode cX9_copies 22 = .ok (.iaload, 1) := by decide +kernel
theorem dX9_copies_23 : decode cX9_copies 23 = .ok (.iastore, 1) := by decide +kernel
theorem dX9_copies_24 : decode cX9_copies 24 = .ok (.iinc 3 1, 3) := by decide +kernel
theorem dX9_copies_27 : decode cX9_copies 27 = .ok (.goto (-25), 3) := by decide +kernel
theorem dX9_copies_30 : decode cX9_copies 30 = .ok (.return_, 1) := by decide +kernel
def f_X9_copies_L2 (Λ : List Ly) (p0 : Nat) (v1 : Int32) (v2 : Int32) : Nat → Int32 → Dt → Option Dt
  | 0, _, _ => none
  | n + 1, v3, d => if (60 : Int32) ≤ v3 then (some d) else (Option.bind (rf Λ p0 9 0) fun q2 => if okA Λ q2 1 (v2 + v3) = true then (if okA Λ q2 1 (v1 + v3) = true then (f_X9_copies_L2 Λ p0 v1 v2 n (v3 + (1 : Int32)) (pI d q2 ((v1 + v3)).toNatClampNeg (d.1 q2 ((v2 + v3)).toNatClampNeg))) else none) else none)
def f_X9_copies (Λ : List Ly) (d : Dt) (p0 : Nat) (v1 : Int32) (v2 : Int32) : Option Dt := f_X9_copies_L2 Λ p0 v1 v2 FU (0 : Int32) d
set_option maxHeartbeats 4000000 in
set_option maxRecDepth 100000 in
theorem w_X9_copies_L2 {p : Program} {l : Launch} {e : Env} {s : State} {m : MethodId} {args : Array Value} {below : List Frame} {meth : Method} {c : Code} {Γ : Cx} {Λ : List Ly} {z : Dt} (C0 : Ct Γ p s m args c cX9_copies 4 "SeasonBoundModel") (hr : meth.sig.returnType = none) (hlocks : meth.locks = false) (p0 : Nat) (v1 : Int32) (v2 : Int32) :
    ∀ (n : Nat) (v3 : Int32) (d : Dt), f_X9_copies_L2 Λ p0 v1 v2 n v3 d = some z → ∀ (H : Heap) (locs : List Loc) (ls : Array Slot), Hs Γ Λ d s H locs → lv_has ls 4 [(0, .ref (Γ.2.2.1 + p0)), (1, .int v1), (2, .int v2), (3, .int v3)] → W p l e { frames := 0, cells := 0, slots := 0, locals := 0 } s m args below meth c H locs 0 0 (MQ below (QN Γ Λ z none) args s 0 0 (AP Γ)) (F0 m 2 ls []) := by
  obtain ⟨hx, hb, hml, hown, hts, hK⟩ := id C0
  intro n
  induction n with
  | zero =>
    intro v3 d hf
    cases hf
  | succ n ih =>
    intro v3 d hf H locs ls hH hl
    unfold f_X9_copies_L2 at hf
    refine lv_iload_n hx hb dX9_copies_2 rfl (lv_at hl 3 rfl) ?_
    refine lv_bipush (v := (60 : Int32)) hx hb dX9_copies_3 (by decide) ?_
    refine lv_icmp_ge (tgt := 30) hx hb dX9_copies_5 (by decide) (fun c1 => ?_) (fun c1 => ?_)
    · replace hf := it hf c1
      obtain rfl := Option.some.inj hf
      exact r_vret C0 hr hlocks hH dX9_copies_30
    · replace hf := ie hf c1
      refine lv_aload_n hx hb dX9_copies_8 rfl (lv_at hl 0 rfl) ?_
      obtain ⟨q2, g2, hf⟩ := ob hf
      refine r_getr C0 hH fl_X9_7 g2 dX9_copies_9 ?_
      refine lv_iload_n hx hb dX9_copies_12 rfl (lv_at hl 1 rfl) ?_
      refine lv_iload_n hx hb dX9_copies_13 rfl (lv_at hl 3 rfl) ?_
      refine lv_iadd hx hb dX9_copies_14 ?_
      refine lv_aload_n hx hb dX9_copies_15 rfl (lv_at hl 0 rfl) ?_
      refine r_getr C0 hH fl_X9_7 g2 dX9_copies_16 ?_
      refine lv_iload_n hx hb dX9_copies_19 rfl (lv_at hl 2 rfl) ?_
      refine lv_iload_n hx hb dX9_copies_20 rfl (lv_at hl 3 rfl) ?_
      refine lv_iadd hx hb dX9_copies_21 ?_
      obtain ⟨g3, hf⟩ := gd hf
      refine r_iald C0 hH g3 dX9_copies_22 ?_
      obtain ⟨g4, hf⟩ := gd hf
      refine r_iast C0 hH g4 dX9_copies_23 (fun H locs hH => ?_)
      refine lv_iinc (v := (v3 + (1 : Int32))) (lv' := [(3, .int (v3 + (1 : Int32))), (0, .ref (Γ.2.2.1 + p0)), (1, .int v1), (2, .int v2)]) hx hb dX9_copies_24 hl (k := 3) rfl (congrArg (fun w => v3 + w) (by decide)) (by decide) rfl (fun ls hl => ?_)
      refine lv_goto (tgt := 2) hx hb dX9_copies_27 (by decide) ?_
      exact ih (v3 + (1 : Int32)) (pI d q2 ((v1 + v3)).toNatClampNeg (d.1 q2 ((v2 + v3)).toNatClampNeg)) hf _ _ _ hH (lv_sub hl [1, 2, 3, 0] rfl)
set_option maxHeartbeats 4000000 in
set_option maxRecDepth 100000 in
theorem c_X9_copies (Γ : Cx) (l : Launch) (Λ : List Ly) (d : Dt) (p0 : Nat) (v1 : Int32) (v2 : Int32) (z : Dt) (hf : f_X9_copies Λ d p0 v1 v2 = some z) : Cn Γ l yX9_copies cX9_copies 4 none 0 0 [.ref (Γ.2.2.1 + p0), .int v1, .int v2] Λ d none z := by
  refine Cn.of (own := "SeasonBoundModel") (by decide +kernel) rfl (Nat.le_of_ble_eq_true rfl) ?_
  intro p e s m below meth c C0 hr hlocks hH ls hl
  have hl : lv_has ls 4 [(0, .ref (Γ.2.2.1 + p0)), (1, .int v1), (2, .int v2)] := hl
  obtain ⟨hx, hb, hml, hown, hts, hK⟩ := id C0
  unfold f_X9_copies at hf
  refine lv_iconst (v := (0 : Int32)) hx hb dX9_copies_0 (by decide) ?_
  refine lv_istore_n (lv' := [(3, .int (0 : Int32)), (0, .ref (Γ.2.2.1 + p0)), (1, .int v1), (2, .int v2)]) hx hb dX9_copies_1 rfl hl (by decide) rfl (fun ls hl => ?_)
  refine w_X9_copies_L2 C0 hr hlocks p0 v1 v2 FU (0 : Int32) d hf _ _ _ hH (lv_sub hl [1, 2, 3, 0] rfl)
theorem dX9_keep_0 : decode cX9_keep 0 = .ok (.iload_n 1, 1) := by decide +kernel
theorem dX9_keep_1 : decode cX9_keep 1 = .ok (.i2l, 1) := by decide +kernel
theorem dX9_keep_2 : decode cX9_keep 2 = .ok (.lconst 0, 1) := by decide +kernel
theorem dX9_keep_3 : decode cX9_keep 3 = .ok (.lconst 1, 1) := by decide +kernel
theorem dX9_keep_4 : decode cX9_keep 4 = .ok (.invokestatic 56, 3) := by decide +kernel
theorem dX9_keep_7 : decode cX9_keep 7 = .ok (.ifCond .ne 5, 3) := by decide +kernel
theorem dX9_keep_10 : decode cX9_keep 10 = .ok (.iconst (-1), 1) := by decide +kernel
theorem dX9_keep_11 : decode cX9_keep 11 = .ok (.ireturn, 1) := by decide +kernel
theorem dX9_keep_12 : decode cX9_keep 12 = .ok (.aload_n 0, 1) := by decide +kernel
theorem dX9_keep_13 : decode cX9_keep 13 = .ok (.getfield 16, 3) := by decide +kernel
theorem dX9_keep_16 : decode cX9_keep 16 = .ok (.iload_n 1, 1) := by decide +kernel
theorem dX9_keep_17 : decode cX9_keep 17 = .ok (.baload, 1) := by decide +kernel
theorem dX9_keep_18 : decode cX9_keep 18 = .ok (.invokestatic 146, 3) := by decide +kernel
theorem dX9_keep_21 : decode cX9_keep 21 = .ok (.istore_n 2, 1) := by decide +kernel
theorem dX9_keep_22 : decode cX9_keep 22 = .ok (.aload_n 0, 1) := by decide +kernel
theorem dX9_keep_23 : decode cX9_keep 23 = .ok (.getfield 16, 3) := by decide +kernel
theorem dX9_keep_26 : decode cX9_keep 26 = .ok (.iload_n 1, 1) := by decide +kernel
theorem dX9_keep_27 : decode cX9_keep 27 = .ok (.iconst 1, 1) := by decide +kernel
theorem dX9_keep_28 : decode cX9_keep 28 = .ok (.bastore, 1) := by decide +kernel
theorem dX9_keep_29 : decode cX9_keep 29 = .ok (.aload_n 0, 1) := by decide +kernel
theorem dX9_keep_30 : decode cX9_keep 30 = .ok (.bipush 60, 2) := by decide +kernel
theorem dX9_keep_32 : decode cX9_keep 32 = .ok (.iload_n 1, 1) := by decide +kernel
theorem dX9_keep_33 : decode cX9_keep 33 = .ok (.iconst 1, 1) := by decide +kernel
theorem dX9_keep_34 : decode cX9_keep 34 = .ok (.iadd, 1) := by decide +kernel
theorem dX9_keep_35 : decode cX9_keep 35 = .ok (.imul, 1) := by decide +kernel
theorem dX9_keep_36 : decode cX9_keep 36 = .ok (.iconst 0, 1) := by decide +kernel
theorem dX9_keep_37 : decode cX9_keep 37 = .ok (.invokevirtual 276, 3) := by decide +kernel
theorem dX9_keep_40 : decode cX9_keep 40 = .ok (.iload_n 2, 1) := by decide +kernel
theorem dX9_keep_41 : decode cX9_keep 41 = .ok (.ireturn, 1) := by decide +kernel
def f_X9_keep (Λ : List Ly) (d : Dt) (p0 : Nat) (v1 : Int32) : Option (Int32 × Dt) := if (f_X9_in (v1).toInt64 (0 : Int64) (1 : Int64)) = 0 then (some ((-1 : Int32), d)) else (Option.bind (rf Λ p0 9 2) fun q2 => if okA Λ q2 3 v1 = true then (if clsAt Λ p0 = some 9 then (Option.bind (f_X9_copies Λ (pI d q2 (v1).toNatClampNeg (vp_nar .boolean (1 : Int32))) p0 ((60 : Int32) * (v1 + (1 : Int32))) (0 : Int32)) fun z5 => some ((f_X9_flag (d.1 q2 (v1).toNatClampNeg)), z5)) else none) else none)
set_option maxHeartbeats 4000000 in
set_option maxRecDepth 100000 in
theorem c_X9_keep (Γ : Cx) (l : Launch) (Λ : List Ly) (d : Dt) (p0 : Nat) (v1 : Int32) (z : Int32 × Dt) (hf : f_X9_keep Λ d p0 v1 = some z) : Cn Γ l yX9_keep cX9_keep 3 (some FieldType.int) 1 25 [.ref (Γ.2.2.1 + p0), .int v1] Λ d (some (.int z.1)) z.2 := by
  refine Cn.of (own := "SeasonBoundModel") (by decide +kernel) rfl (Nat.le_of_ble_eq_true rfl) ?_
  intro p e s m below meth c C0 hr hlocks hH ls hl
  have hl : lv_has ls 3 [(0, .ref (Γ.2.2.1 + p0)), (1, .int v1)] := hl
  obtain ⟨hx, hb, hml, hown, hts, hK⟩ := id C0
  unfold f_X9_keep at hf
  refine lv_iload_n hx hb dX9_keep_0 rfl (lv_at hl 1 rfl) ?_
  refine lv_i2l (v := (v1).toInt64) hx hb dX9_keep_1 rfl ?_
  refine lv_lconst (v := (0 : Int64)) hx hb dX9_keep_2 (by decide) ?_
  refine lv_lconst (v := (1 : Int64)) hx hb dX9_keep_3 (by decide) ?_
  refine r_callSi (rest := []) C0 hH (c_X9_in Γ l Λ d (v1).toInt64 (0 : Int64) (1 : Int64)) cs_X9_56 (by decide) rfl hl.1 rfl (Nat.le_of_ble_eq_true rfl) dX9_keep_4 (by decide) (fun H locs hH => ?_)
  refine lv_if_ne (tgt := 12) hx hb dX9_keep_7 (by decide) (fun c1 => ?_) (fun c1 => ?_)
  · replace hf := ie hf c1
    refine lv_aload_n hx hb dX9_keep_12 rfl (lv_at hl 0 rfl) ?_
    obtain ⟨q2, g2, hf⟩ := ob hf
    refine r_getr C0 hH fl_X9_16 g2 dX9_keep_13 ?_
    refine lv_iload_n hx hb dX9_keep_16 rfl (lv_at hl 1 rfl) ?_
    obtain ⟨g3, hf⟩ := gd hf
    refine r_zald C0 hH g3 dX9_keep_17 ?_
    refine r_callSi (rest := []) C0 hH (c_X9_flag Γ l Λ d (d.1 q2 (v1).toNatClampNeg)) cs_X9_146 (by decide) rfl hl.1 rfl (Nat.le_of_ble_eq_true rfl) dX9_keep_18 (by decide) (fun H locs hH => ?_)
    refine lv_istore_n (lv' := [(2, .int (f_X9_flag (d.1 q2 (v1).toNatClampNeg))), (0, .ref (Γ.2.2.1 + p0)), (1, .int v1)]) hx hb dX9_keep_21 rfl hl (by decide) rfl (fun ls hl => ?_)
    refine lv_aload_n hx hb dX9_keep_22 rfl (lv_at hl 1 rfl) ?_
    refine r_getr C0 hH fl_X9_16 g2 dX9_keep_23 ?_
    refine lv_iload_n hx hb dX9_keep_26 rfl (lv_at hl 2 rfl) ?_
    refine lv_iconst (v := (1 : Int32)) hx hb dX9_keep_27 (by decide) ?_
    refine r_zast C0 hH g3 dX9_keep_28 (fun H locs hH => ?_)
    refine lv_aload_n hx hb dX9_keep_29 rfl (lv_at hl 1 rfl) ?_
    refine lv_bipush (v := (60 : Int32)) hx hb dX9_keep_30 (by decide) ?_
    refine lv_iload_n hx hb dX9_keep_32 rfl (lv_at hl 2 rfl) ?_
    refine lv_iconst (v := (1 : Int32)) hx hb dX9_keep_33 (by decide) ?_
    refine lv_iadd hx hb dX9_keep_34 ?_
    refine lv_imul hx hb dX9_keep_35 ?_
    refine lv_iconst (v := (0 : Int32)) hx hb dX9_keep_36 (by decide) ?_
    obtain ⟨g4, hf⟩ := gd hf
    obtain ⟨z5, h5, hf⟩ := ob hf
    refine r_callVv (rest := []) C0 hH (c_X9_copies Γ l Λ (pI d q2 (v1).toNatClampNeg (vp_nar .boolean (1 : Int32))) p0 ((60 : Int32) * (v1 + (1 : Int32))) (0 : Int32) z5 h5) cv_X9_276 g4 (by decide) rfl hl.1 rfl (Nat.le_of_ble_eq_true rfl) dX9_keep_37 (by decide) (fun H locs hH => ?_)
    refine lv_iload_n hx hb dX9_keep_40 rfl (lv_at hl 0 rfl) ?_
    obtain rfl := Option.some.inj hf
    exact r_iret (d' := d) C0 hr hlocks hH rfl dX9_keep_41
  · replace hf := it hf c1
    refine lv_iconst (v := (-1 : Int32)) hx hb dX9_keep_10 (by decide) ?_
    obtain rfl := Option.some.inj hf
    exact r_iret (d' := d) C0 hr hlocks hH rfl dX9_keep_11
theorem dX9_back_0 : decode cX9_back 0 = .ok (.iload_n 1, 1) := by decide +kernel
theorem dX9_back_1 : decode cX9_back 1 = .ok (.i2l, 1) := by decide +kernel
theorem dX9_back_2 : decode cX9_back 2 = .ok (.lconst 0, 1) := by decide +kernel
theorem dX9_back_3 : decode cX9_back 3 = .ok (.lconst 1, 1) := by decide +kernel
theorem dX9_back_4 : decode cX9_back 4 = .ok (.invokestatic 56, 3) := by decide +kernel
theorem dX9_back_7 : decode cX9_back 7 = .ok (.ifCond .ne 5, 3) := by decide +kernel
theorem dX9_back_10 : decode cX9_back 10 = .ok (.iconst (-1), 1) := by decide +kernel
theorem dX9_back_11 : decode cX9_back 11 = .ok (.ireturn, 1) := by decide +kernel
theorem dX9_back_12 : decode cX9_back 12 = .ok (.aload_n 0, 1) := by decide +kernel
theorem dX9_back_13 : decode cX9_back 13 = .ok (.getfield 16, 3) := by decide +kernel
theorem dX9_back_16 : decode cX9_back 16 = .ok (.iload_n 1, 1) := by decide +kernel
theorem dX9_back_17 : decode cX9_back 17 = .ok (.baload, 1) := by decide +kernel
theorem dX9_back_18 : decode cX9_back 18 = .ok (.ifCond .ne 6, 3) := by decide +kernel
theorem dX9_back_21 : decode cX9_back 21 = .ok (.bipush (-2), 2) := by decide +kernel
theorem dX9_back_23 : decode cX9_back 23 = .ok (.ireturn, 1) := by decide +kernel
theorem dX9_back_24 : decode cX9_back 24 = .ok (.aload_n 0, 1) := by decide +kernel
theorem dX9_back_25 : decode cX9_back 25 = .ok (.iconst 0, 1) := by decide +kernel
theorem dX9_back_26 : decode cX9_back 26 = .ok (.bipush 60, 2) := by decide +kernel
theorem dX9_back_28 : decode cX9_back 28 = .ok (.iload_n 1, 1) := by decide +kernel
theorem dX9_back_29 : decode cX9_back 29 = .ok (.iconst 1, 1) := by decide +kernel
theorem dX9_back_30 : decode cX9_back 30 = .ok (.iadd, 1) := by decide +kernel
theorem dX9_back_31 : decode cX9_back 31 = .ok (.imul, 1) := by decide +kernel
theorem dX9_back_32 : decode cX9_back 32 = .ok (.invokevirtual 276, 3) := by decide +kernel
theorem dX9_back_35 : decode cX9_back 35 = .ok (.aload_n 0, 1) := by decide +kernel
theorem dX9_back_36 : decode cX9_back 36 = .ok (.getfield 7, 3) := by decide +kernel
theorem dX9_back_39 : decode cX9_back 39 = .ok (.bipush 40, 2) := by decide +kernel
theorem dX9_back_41 : decode cX9_back 41 = .ok (.iaload, 1) := by decide +kernel
theorem dX9_back_42 : decode cX9_back 42 = .ok (.ireturn, 1) := by decide +kernel
def f_X9_back (Λ : List Ly) (d : Dt) (p0 : Nat) (v1 : Int32) : Option (Int32 × Dt) := if (f_X9_in (v1).toInt64 (0 : Int64) (1 : Int64)) = 0 then (some ((-1 : Int32), d)) else (Option.bind (rf Λ p0 9 2) fun q2 => if okA Λ q2 3 v1 = true then (if (d.1 q2 (v1).toNatClampNeg) = 0 then (some ((-2 : Int32), d)) else (if clsAt Λ p0 = some 9 then (Option.bind (f_X9_copies Λ d p0 (0 : Int32) ((60 : Int32) * (v1 + (1 : Int32)))) fun z6 => Option.bind (rf Λ p0 9 0) fun q7 => if okA Λ q7 1 (40 : Int32) = true then (some ((z6.1 q7 ((40 : Int32)).toNatClampNeg), z6)) else none) else none)) else none)
set_option maxHeartbeats 4000000 in
set_option maxRecDepth 100000 in
theorem c_X9_back (Γ : Cx) (l : Launch) (Λ : List Ly) (d : Dt) (p0 : Nat) (v1 : Int32) (z : Int32 × Dt) (hf : f_X9_back Λ d p0 v1 = some z) : Cn Γ l yX9_back cX9_back 2 (some FieldType.int) 1 25 [.ref (Γ.2.2.1 + p0), .int v1] Λ d (some (.int z.1)) z.2 := by
  refine Cn.of (own := "SeasonBoundModel") (by decide +kernel) rfl (Nat.le_of_ble_eq_true rfl) ?_
  intro p e s m below meth c C0 hr hlocks hH ls hl
  have hl : lv_has ls 2 [(0, .ref (Γ.2.2.1 + p0)), (1, .int v1)] := hl
  obtain ⟨hx, hb, hml, hown, hts, hK⟩ := id C0
  unfold f_X9_back at hf
  refine lv_iload_n hx hb dX9_back_0 rfl (lv_at hl 1 rfl) ?_
  refine lv_i2l (v := (v1).toInt64) hx hb dX9_back_1 rfl ?_
  refine lv_lconst (v := (0 : Int64)) hx hb dX9_back_2 (by decide) ?_
  refine lv_lconst (v := (1 : Int64)) hx hb dX9_back_3 (by decide) ?_
  refine r_callSi (rest := []) C0 hH (c_X9_in Γ l Λ d (v1).toInt64 (0 : Int64) (1 : Int64)) cs_X9_56 (by decide) rfl hl.1 rfl (Nat.le_of_ble_eq_true rfl) dX9_back_4 (by decide) (fun H locs hH => ?_)
  refine lv_if_ne (tgt := 12) hx hb dX9_back_7 (by decide) (fun c1 => ?_) (fun c1 => ?_)
  · replace hf := ie hf c1
    refine lv_aload_n hx hb dX9_back_12 rfl (lv_at hl 0 rfl) ?_
    obtain ⟨q2, g2, hf⟩ := ob hf
    refine r_getr C0 hH fl_X9_16 g2 dX9_back_13 ?_
    refine lv_iload_n hx hb dX9_back_16 rfl (lv_at hl 1 rfl) ?_
    obtain ⟨g3, hf⟩ := gd hf
    refine r_zald C0 hH g3 dX9_back_17 ?_
    refine lv_if_ne (tgt := 24) hx hb dX9_back_18 (by decide) (fun c4 => ?_) (fun c4 => ?_)
    · replace hf := ie hf c4
      refine lv_aload_n hx hb dX9_back_24 rfl (lv_at hl 0 rfl) ?_
      refine lv_iconst (v := (0 : Int32)) hx hb dX9_back_25 (by decide) ?_
      refine lv_bipush (v := (60 : Int32)) hx hb dX9_back_26 (by decide) ?_
      refine lv_iload_n hx hb dX9_back_28 rfl (lv_at hl 1 rfl) ?_
      refine lv_iconst (v := (1 : Int32)) hx hb dX9_back_29 (by decide) ?_
      refine lv_iadd hx hb dX9_back_30 ?_
      refine lv_imul hx hb dX9_back_31 ?_
      obtain ⟨g5, hf⟩ := gd hf
      obtain ⟨z6, h6, hf⟩ := ob hf
      refine r_callVv (rest := []) C0 hH (c_X9_copies Γ l Λ d p0 (0 : Int32) ((60 : Int32) * (v1 + (1 : Int32))) z6 h6) cv_X9_276 g5 (by decide) rfl hl.1 rfl (Nat.le_of_ble_eq_true rfl) dX9_back_32 (by decide) (fun H locs hH => ?_)
      refine lv_aload_n hx hb dX9_back_35 rfl (lv_at hl 0 rfl) ?_
      obtain ⟨q7, g7, hf⟩ := ob hf
      refine r_getr C0 hH fl_X9_7 g7 dX9_back_36 ?_
      refine lv_bipush (v := (40 : Int32)) hx hb dX9_back_39 (by decide) ?_
      obtain ⟨g8, hf⟩ := gd hf
      refine r_iald C0 hH g8 dX9_back_41 ?_
      obtain rfl := Option.some.inj hf
      exact r_iret (d' := d) C0 hr hlocks hH rfl dX9_back_42
    · replace hf := it hf c4
      refine lv_bipush (v := (-2 : Int32)) hx hb dX9_back_21 (by decide) ?_
      obtain rfl := Option.some.inj hf
      exact r_iret (d' := d) C0 hr hlocks hH rfl dX9_back_23
  · replace hf := it hf c1
    refine lv_iconst (v := (-1 : Int32)) hx hb dX9_back_10 (by decide) ?_
    obtain rfl := Option.some.inj hf
    exact r_iret (d' := d) C0 hr hlocks hH rfl dX9_back_11
theorem dX9_isSheet_0 : decode cX9_isSheet 0 = .ok (.iload_n 0, 1) := by decide +kernel
theorem dX9_isSheet_1 : decode cX9_isSheet 1 = .ok (.i2l, 1) := by decide +kernel
theorem dX9_isSheet_2 : decode cX9_isSheet 2 = .ok (.lconst 0, 1) := by decide +kernel
theorem dX9_isSheet_3 : decode cX9_isSheet 3 = .ok (.ldc2_w 132, 3) := by decide +kernel
theorem dX9_isSheet_6 : decode cX9_isSheet 6 = .ok (.invokestatic 56, 3) := by decide +kernel
theorem dX9_isSheet_9 : decode cX9_isSheet 9 = .ok (.ifCond .eq 19, 3) := by decide +kernel
theorem dX9_isSheet_12 : decode cX9_isSheet 12 = .ok (.iload_n 1, 1) := by decide +kernel
theorem dX9_isSheet_13 : decode cX9_isSheet 13 = .ok (.i2l, 1) := by decide +kernel
theorem dX9_isSheet_14 : decode cX9_isSheet 14 = .ok (.lconst 0, 1) := by decide +kernel
theorem dX9_isSheet_15 : decode cX9_isSheet 15 = .ok (.ldc2_w 220, 3) := by decide +kernel
theorem dX9_isSheet_18 : decode cX9_isSheet 18 = .ok (.invokestatic 56, 3) := by decide +kernel
theorem dX9_isSheet_21 : decode cX9_isSheet 21 = .ok (.ifCond .eq 7, 3) := by decide +kernel
theorem dX9_isSheet_24 : decode cX9_isSheet 24 = .ok (.iconst 1, 1) := by decide +kernel
theorem dX9_isSheet_25 : decode cX9_isSheet 25 = .ok (.goto 4, 3) := by decide +kernel
theorem dX9_isSheet_28 : decode cX9_isSheet 28 = .ok (.iconst 0, 1) := by decide +kernel
theorem dX9_isSheet_29 : decode cX9_isSheet 29 = .ok (.ireturn, 1) := by decide +kernel
def f_X9_isSheet (v0 : Int32) (v1 : Int32) : Int32 := if (f_X9_in (v0).toInt64 (0 : Int64) (3 : Int64)) = 0 then ((0 : Int32)) else (if (f_X9_in (v1).toInt64 (0 : Int64) (2 : Int64)) = 0 then ((0 : Int32)) else ((1 : Int32)))
theorem bo_X9_isSheet (v0 : Int32) (v1 : Int32) : f_X9_isSheet v0 v1 = 0 ∨ f_X9_isSheet v0 v1 = 1 := by
  unfold f_X9_isSheet
  (repeat' split) <;> first | exact Or.inl rfl | exact Or.inr rfl | exact bo_X9_in _ _ _
set_option maxHeartbeats 4000000 in
set_option maxRecDepth 100000 in
theorem c_X9_isSheet (Γ : Cx) (l : Launch) (Λ : List Ly) (d : Dt) (v0 : Int32) (v1 : Int32) : Cn Γ l yX9_isSheet cX9_isSheet 2 (some FieldType.boolean) 1 25 [.int v0, .int v1] Λ d (some (.int (f_X9_isSheet v0 v1))) d := by
  generalize hf : f_X9_isSheet v0 v1 = z
  refine Cn.of (own := "SeasonBoundModel") (by decide +kernel) rfl (Nat.le_of_ble_eq_true rfl) ?_
  intro p e s m below meth c C0 hr hlocks hH ls hl
  have hl : lv_has ls 2 [(0, .int v0), (1, .int v1)] := hl
  obtain ⟨hx, hb, hml, hown, hts, hK⟩ := id C0
  unfold f_X9_isSheet at hf
  refine lv_iload_n hx hb dX9_isSheet_0 rfl (lv_at hl 0 rfl) ?_
  refine lv_i2l (v := (v0).toInt64) hx hb dX9_isSheet_1 rfl ?_
  refine lv_lconst (v := (0 : Int64)) hx hb dX9_isSheet_2 (by decide) ?_
  refine lv_ldc2 hx hb hown (hts _ kl_X9_132) dX9_isSheet_3 ?_
  refine r_callSi (rest := []) C0 hH (c_X9_in Γ l Λ d (v0).toInt64 (0 : Int64) (3 : Int64)) cs_X9_56 (by decide) rfl hl.1 rfl (Nat.le_of_ble_eq_true rfl) dX9_isSheet_6 (by decide) (fun H locs hH => ?_)
  refine lv_if_eq (tgt := 28) hx hb dX9_isSheet_9 (by decide) (fun c1 => ?_) (fun c1 => ?_)
  · replace hf := it hf c1
    refine lv_iconst (v := (0 : Int32)) hx hb dX9_isSheet_28 (by decide) ?_
    subst hf
    exact r_iret (d' := d) C0 hr hlocks hH (nz (Or.inl rfl)) dX9_isSheet_29
  · replace hf := ie hf c1
    refine lv_iload_n hx hb dX9_isSheet_12 rfl (lv_at hl 1 rfl) ?_
    refine lv_i2l (v := (v1).toInt64) hx hb dX9_isSheet_13 rfl ?_
    refine lv_lconst (v := (0 : Int64)) hx hb dX9_isSheet_14 (by decide) ?_
    refine lv_ldc2 hx hb hown (hts _ kl_X9_220) dX9_isSheet_15 ?_
    refine r_callSi (rest := []) C0 hH (c_X9_in Γ l Λ d (v1).toInt64 (0 : Int64) (2 : Int64)) cs_X9_56 (by decide) rfl hl.1 rfl (Nat.le_of_ble_eq_true rfl) dX9_isSheet_18 (by decide) (fun H locs hH => ?_)
    refine lv_if_eq (tgt := 28) hx hb dX9_isSheet_21 (by decide) (fun c2 => ?_) (fun c2 => ?_)
    · replace hf := it hf c2
      refine lv_iconst (v := (0 : Int32)) hx hb dX9_isSheet_28 (by decide) ?_
      subst hf
      exact r_iret (d' := d) C0 hr hlocks hH (nz (Or.inl rfl)) dX9_isSheet_29
    · replace hf := ie hf c2
      refine lv_iconst (v := (1 : Int32)) hx hb dX9_isSheet_24 (by decide) ?_
      refine lv_goto (tgt := 29) hx hb dX9_isSheet_25 (by decide) ?_
      subst hf
      exact r_iret (d' := d) C0 hr hlocks hH (nz (Or.inr rfl)) dX9_isSheet_29
theorem dX9_sheet_0 : decode cX9_sheet 0 = .ok (.iload_n 1, 1) := by decide +kernel
theorem dX9_sheet_1 : decode cX9_sheet 1 = .ok (.iload_n 2, 1) := by decide +kernel
theorem dX9_sheet_2 : decode cX9_sheet 2 = .ok (.invokestatic 279, 3) := by decide +kernel
theorem dX9_sheet_5 : decode cX9_sheet 5 = .ok (.ifCond .eq 9, 3) := by decide +kernel
theorem dX9_sheet_8 : decode cX9_sheet 8 = .ok (.iload_n 3, 1) := by decide +kernel
theorem dX9_sheet_9 : decode cX9_sheet 9 = .ok (.bipush 40, 2) := by decide +kernel
theorem dX9_sheet_11 : decode cX9_sheet 11 = .ok (.if_icmp .le 5, 3) := by decide +kernel
theorem dX9_sheet_14 : decode cX9_sheet 14 = .ok (.iconst (-1), 1) := by decide +kernel
theorem dX9_sheet_15 : decode cX9_sheet 15 = .ok (.ireturn, 1) := by decide +kernel
theorem dX9_sheet_16 : decode cX9_sheet 16 = .ok (.iload_n 3, 1) := by decide +kernel
theorem dX9_sheet_17 : decode cX9_sheet 17 = .ok (.ifCond .ge 6, 3) := by decide +kernel
theorem dX9_sheet_20 : decode cX9_sheet 20 = .ok (.bipush (-14), 2) := by decide +kernel
theorem dX9_sheet_22 : decode cX9_sheet 22 = .ok (.ireturn, 1) := by decide +kernel
theorem dX9_sheet_23 : decode cX9_sheet 23 = .ok (.aload_n 0, 1) := by decide +kernel
theorem dX9_sheet_24 : decode cX9_sheet 24 = .ok (.getfield 32, 3) := by decide +kernel
theorem dX9_sheet_27 : decode cX9_sheet 27 = .ok (.iload_n 1, 1) := by decide +kernel
theorem dX9_sheet_28 : decode cX9_sheet 28 = .ok (.iload_n 2, 1) := by decide +kernel
theorem dX9_sheet_29 : decode cX9_sheet 29 = .ok (.iastore, 1) := by decide +kernel
theorem dX9_sheet_30 : decode cX9_sheet 30 = .ok (.aload_n 0, 1) := by decide +kernel
theorem dX9_sheet_31 : decode cX9_sheet 31 = .ok (.getfield 35, 3) := by decide +kernel
theorem dX9_sheet_34 : decode cX9_sheet 34 = .ok (.iload_n 1, 1) := by decide +kernel
theorem dX9_sheet_35 : decode cX9_sheet 35 = .ok (.iload_n 3, 1) := by decide +kernel
theorem dX9_sheet_36 : decode cX9_sheet 36 = .ok (.iastore, 1) := by decide +kernel
theorem dX9_sheet_37 : decode cX9_sheet 37 = .ok (.iconst 0, 1) := by decide +kernel
theorem dX9_sheet_38 : decode cX9_sheet 38 = .ok (.istore 4, 2) := by decide +kernel
theorem dX9_sheet_40 : decode cX9_sheet 40 = .ok (.iload 4, 2) := by decide +kernel
theorem dX9_sheet_42 : decode cX9_sheet 42 = .ok (.bipush 40, 2) := by decide +kernel
theorem dX9_sheet_44 : decode cX9_sheet 44 = .ok (.if_icmp .ge 22, 3) := by decide +kernel
theorem dX9_sheet_47 : decode cX9_sheet 47 = .ok (.aload_n 0, 1) := by decide +kernel
theorem dX9_sheet_48 : decode cX9_sheet 48 = .ok (.getfield 38, 3) := by decide +kernel
theorem dX9_sheet_51 : decode cX9_sheet 51 = .ok (.bipush 40, 2) := by decide +kernel
theorem dX9_sheet_53 : decode cX9_sheet 53 = .ok (.iload_n 1, 1) := by decide +kernel
theorem dX9_sheet_54 : decode cX9_sheet 54 = .ok (.imul, 1) := by decide +kernel
theorem dX9_sheet_55 : decode cX9_sheet 55 = .ok (.iload 4, 2) := by decide +kernel
theorem dX9_sheet_57 : decode cX9_sheet 57 = .ok (.iadd, 1) := by decide +kernel
theorem dX9_sheet_58 : decode cX9_sheet 58 = .ok (.iconst 0, 1) := by decide +kernel
theorem dX9_sheet_59 : decode cX9_sheet 59 = .ok (.iastore, 1) := by decide +kernel
theorem dX9_sheet_60 : decode cX9_sheet 60 = .ok (.iinc 4 1, 3) := by decide +kernel
theorem dX9_sheet_63 : decode cX9_sheet 63 = .ok (.goto (-23), 3) := by decide +kernel
theorem dX9_sheet_66 : decode cX9_sheet 66 = .ok (.iconst 1, 1) := by decide +kernel
theorem dX9_sheet_67 : decode cX9_sheet 67 = .ok (.ireturn, 1) := by decide +kernel
def f_X9_sheet_L40 (Λ : List Ly) (p0 : Nat) (v1 : Int32) : Nat → Int32 → Dt → Option (Int32 × Dt)
  | 0, _, _ => none
  | n + 1, v4, d => if (40 : Int32) ≤ v4 then (some ((1 : Int32), d)) else (Option.bind (rf Λ p0 9 22) fun q9 => if okA Λ q9 1 (((40 : Int32) * v1) + v4) = true then (f_X9_sheet_L40 Λ p0 v1 n (v4 + (1 : Int32)) (pI d q9 ((((40 : Int32) * v1) + v4)).toNatClampNeg (0 : Int32))) else none)
def f_X9_sheet (Λ : List Ly) (d : Dt) (p0 : Nat) (v1 : Int32) (v2 : Int32) (v3 : Int32) : Option (Int32 × Dt) := if (f_X9_isSheet v1 v2) = 0 then (some ((-1 : Int32), d)) else (if v3 ≤ (40 : Int32) then (if 0 ≤ v3 then (Option.bind (rf Λ p0 9 20) fun q4 => if okA Λ q4 1 v1 = true then (Option.bind (rf Λ p0 9 21) fun q6 => if okA Λ q6 1 v1 = true then (f_X9_sheet_L40 Λ p0 v1 FU (0 : Int32) (pI (pI d q4 (v1).toNatClampNeg v2) q6 (v1).toNatClampNeg v3)) else none) else none) else (some ((-14 : Int32), d))) else (some ((-1 : Int32), d)))
set_option maxHeartbeats 4000000 in
set_option maxRecDepth 100000 in
theorem w_X9_sheet_L40 {p : Program} {l : Launch} {e : Env} {s : State} {m : MethodId} {args : Array Value} {below : List Frame} {meth : Method} {c : Code} {Γ : Cx} {Λ : List Ly} {z : Int32 × Dt} (C0 : Ct Γ p s m args c cX9_sheet 5 "SeasonBoundModel") (hr : meth.sig.returnType = (some FieldType.int)) (hlocks : meth.locks = false) (p0 : Nat) (v1 : Int32) :
    ∀ (n : Nat) (v4 : Int32) (d : Dt), f_X9_sheet_L40 Λ p0 v1 n v4 d = some z → ∀ (H : Heap) (locs : List Loc) (ls : Array Slot), Hs Γ Λ d s H locs → lv_has ls 5 [(0, .ref (Γ.2.2.1 + p0)), (1, .int v1), (4, .int v4)] → W p l e { frames := 2, cells := 0, slots := 0, locals := 46 } s m args below meth c H locs 0 0 (MQ below (QN Γ Λ z.2 (some (.int z.1))) args s 0 0 (AP Γ)) (F0 m 40 ls []) := by
  obtain ⟨hx, hb, hml, hown, hts, hK⟩ := id C0
  intro n
  induction n with
  | zero =>
    intro v4 d hf
    cases hf
  | succ n ih =>
    intro v4 d hf H locs ls hH hl
    unfold f_X9_sheet_L40 at hf
    refine lv_iload hx hb dX9_sheet_40 (lv_at hl 2 rfl) ?_
    refine lv_bipush (v := (40 : Int32)) hx hb dX9_sheet_42 (by decide) ?_
    refine lv_icmp_ge (tgt := 66) hx hb dX9_sheet_44 (by decide) (fun c8 => ?_) (fun c8 => ?_)
    · replace hf := it hf c8
      refine lv_iconst (v := (1 : Int32)) hx hb dX9_sheet_66 (by decide) ?_
      obtain rfl := Option.some.inj hf
      exact r_iret (d' := d) C0 hr hlocks hH rfl dX9_sheet_67
    · replace hf := ie hf c8
      refine lv_aload_n hx hb dX9_sheet_47 rfl (lv_at hl 0 rfl) ?_
      obtain ⟨q9, g9, hf⟩ := ob hf
      refine r_getr C0 hH fl_X9_38 g9 dX9_sheet_48 ?_
      refine lv_bipush (v := (40 : Int32)) hx hb dX9_sheet_51 (by decide) ?_
      refine lv_iload_n hx hb dX9_sheet_53 rfl (lv_at hl 1 rfl) ?_
      refine lv_imul hx hb dX9_sheet_54 ?_
      refine lv_iload hx hb dX9_sheet_55 (lv_at hl 2 rfl) ?_
      refine lv_iadd hx hb dX9_sheet_57 ?_
      refine lv_iconst (v := (0 : Int32)) hx hb dX9_sheet_58 (by decide) ?_
      obtain ⟨g10, hf⟩ := gd hf
      refine r_iast C0 hH g10 dX9_sheet_59 (fun H locs hH => ?_)
      refine lv_iinc (v := (v4 + (1 : Int32))) (lv' := [(4, .int (v4 + (1 : Int32))), (0, .ref (Γ.2.2.1 + p0)), (1, .int v1)]) hx hb dX9_sheet_60 hl (k := 2) rfl (congrArg (fun w => v4 + w) (by decide)) (by decide) rfl (fun ls hl => ?_)
      refine lv_goto (tgt := 40) hx hb dX9_sheet_63 (by decide) ?_
      exact ih (v4 + (1 : Int32)) (pI d q9 ((((40 : Int32) * v1) + v4)).toNatClampNeg (0 : Int32)) hf _ _ _ hH (lv_sub hl [1, 2, 0] rfl)
set_option maxHeartbeats 4000000 in
set_option maxRecDepth 100000 in
theorem c_X9_sheet (Γ : Cx) (l : Launch) (Λ : List Ly) (d : Dt) (p0 : Nat) (v1 : Int32) (v2 : Int32) (v3 : Int32) (z : Int32 × Dt) (hf : f_X9_sheet Λ d p0 v1 v2 v3 = some z) : Cn Γ l yX9_sheet cX9_sheet 5 (some FieldType.int) 2 46 [.ref (Γ.2.2.1 + p0), .int v1, .int v2, .int v3] Λ d (some (.int z.1)) z.2 := by
  refine Cn.of (own := "SeasonBoundModel") (by decide +kernel) rfl (Nat.le_of_ble_eq_true rfl) ?_
  intro p e s m below meth c C0 hr hlocks hH ls hl
  have hl : lv_has ls 5 [(0, .ref (Γ.2.2.1 + p0)), (1, .int v1), (2, .int v2), (3, .int v3)] := hl
  obtain ⟨hx, hb, hml, hown, hts, hK⟩ := id C0
  unfold f_X9_sheet at hf
  refine lv_iload_n hx hb dX9_sheet_0 rfl (lv_at hl 1 rfl) ?_
  refine lv_iload_n hx hb dX9_sheet_1 rfl (lv_at hl 2 rfl) ?_
  refine r_callSi (rest := []) C0 hH (c_X9_isSheet Γ l Λ d v1 v2) cs_X9_279 (by decide) rfl hl.1 rfl (Nat.le_of_ble_eq_true rfl) dX9_sheet_2 (by decide) (fun H locs hH => ?_)
  refine lv_if_eq (tgt := 14) hx hb dX9_sheet_5 (by decide) (fun c1 => ?_) (fun c1 => ?_)
  · replace hf := it hf c1
    refine lv_iconst (v := (-1 : Int32)) hx hb dX9_sheet_14 (by decide) ?_
    obtain rfl := Option.some.inj hf
    exact r_iret (d' := d) C0 hr hlocks hH rfl dX9_sheet_15
  · replace hf := ie hf c1
    refine lv_iload_n hx hb dX9_sheet_8 rfl (lv_at hl 3 rfl) ?_
    refine lv_bipush (v := (40 : Int32)) hx hb dX9_sheet_9 (by decide) ?_
    refine lv_icmp_le (tgt := 16) hx hb dX9_sheet_11 (by decide) (fun c2 => ?_) (fun c2 => ?_)
    · replace hf := it hf c2
      refine lv_iload_n hx hb dX9_sheet_16 rfl (lv_at hl 3 rfl) ?_
      refine lv_if_ge (tgt := 23) hx hb dX9_sheet_17 (by decide) (fun c3 => ?_) (fun c3 => ?_)
      · replace hf := it hf c3
        refine lv_aload_n hx hb dX9_sheet_23 rfl (lv_at hl 0 rfl) ?_
        obtain ⟨q4, g4, hf⟩ := ob hf
        refine r_getr C0 hH fl_X9_32 g4 dX9_sheet_24 ?_
        refine lv_iload_n hx hb dX9_sheet_27 rfl (lv_at hl 1 rfl) ?_
        refine lv_iload_n hx hb dX9_sheet_28 rfl (lv_at hl 2 rfl) ?_
        obtain ⟨g5, hf⟩ := gd hf
        refine r_iast C0 hH g5 dX9_sheet_29 (fun H locs hH => ?_)
        refine lv_aload_n hx hb dX9_sheet_30 rfl (lv_at hl 0 rfl) ?_
        obtain ⟨q6, g6, hf⟩ := ob hf
        refine r_getr C0 hH fl_X9_35 g6 dX9_sheet_31 ?_
        refine lv_iload_n hx hb dX9_sheet_34 rfl (lv_at hl 1 rfl) ?_
        refine lv_iload_n hx hb dX9_sheet_35 rfl (lv_at hl 3 rfl) ?_
        obtain ⟨g7, hf⟩ := gd hf
        refine r_iast C0 hH g7 dX9_sheet_36 (fun H locs hH => ?_)
        refine lv_iconst (v := (0 : Int32)) hx hb dX9_sheet_37 (by decide) ?_
        refine lv_istore (lv' := [(4, .int (0 : Int32)), (0, .ref (Γ.2.2.1 + p0)), (1, .int v1), (2, .int v2), (3, .int v3)]) hx hb dX9_sheet_38 hl (by decide) rfl (fun ls hl => ?_)
        refine w_X9_sheet_L40 C0 hr hlocks p0 v1 FU (0 : Int32) (pI (pI d q4 (v1).toNatClampNeg v2) q6 (v1).toNatClampNeg v3) hf _ _ _ hH (lv_sub hl [1, 2, 0] rfl)
      · replace hf := ie hf c3
        refine lv_bipush (v := (-14 : Int32)) hx hb dX9_sheet_20 (by decide) ?_
        obtain rfl := Option.some.inj hf
        exact r_iret (d' := d) C0 hr hlocks hH rfl dX9_sheet_22
    · replace hf := ie hf c2
      refine lv_iconst (v := (-1 : Int32)) hx hb dX9_sheet_14 (by decide) ?_
      obtain rfl := Option.some.inj hf
      exact r_iret (d' := d) C0 hr hlocks hH rfl dX9_sheet_15
theorem dX9_lay_0 : decode cX9_lay 0 = .ok (.iload_n 1, 1) := by decide +kernel
theorem dX9_lay_1 : decode cX9_lay 1 = .ok (.iconst 0, 1) := by decide +kernel
theorem dX9_lay_2 : decode cX9_lay 2 = .ok (.invokestatic 279, 3) := by decide +kernel
theorem dX9_lay_5 : decode cX9_lay 5 = .ok (.ifCond .ne 5, 3) := by decide +kernel
theorem dX9_lay_8 : decode cX9_lay 8 = .ok (.iconst (-1), 1) := by decide +kernel
theorem dX9_lay_9 : decode cX9_lay 9 = .ok (.ireturn, 1) := by decide +kernel
theorem dX9_lay_10 : decode cX9_lay 10 = .ok (.aload_n 0, 1) := by decide +kernel
theorem dX9_lay_11 : decode cX9_lay 11 = .ok (.getfield 32, 3) := by decide +kernel
theorem dX9_lay_14 : decode cX9_lay 14 = .ok (.iload_n 1, 1) := by decide +kernel
theorem dX9_lay_15 : decode cX9_lay 15 = .ok (.iaload, 1) := by decide +kernel
theorem dX9_lay_16 : decode cX9_lay 16 = .ok (.bipush (-4), 2) := by decide +kernel
theorem dX9_lay_18 : decode cX9_lay 18 = .ok (.if_icmp .ne 6, 3) := by decide +kernel
theorem dX9_lay_21 : decode cX9_lay 21 = .ok (.bipush (-11), 2) := by decide +kernel
theorem dX9_lay_23 : decode cX9_lay 23 = .ok (.ireturn, 1) := by decide +kernel
theorem dX9_lay_24 : decode cX9_lay 24 = .ok (.iload_n 2, 1) := by decide +kernel
theorem dX9_lay_25 : decode cX9_lay 25 = .ok (.i2l, 1) := by decide +kernel
theorem dX9_lay_26 : decode cX9_lay 26 = .ok (.lconst 0, 1) := by decide +kernel
theorem dX9_lay_27 : decode cX9_lay 27 = .ok (.aload_n 0, 1) := by decide +kernel
theorem dX9_lay_28 : decode cX9_lay 28 = .ok (.getfield 35, 3) := by decide +kernel
theorem dX9_lay_31 : decode cX9_lay 31 = .ok (.iload_n 1, 1) := by decide +kernel
theorem dX9_lay_32 : decode cX9_lay 32 = .ok (.iaload, 1) := by decide +kernel
theorem dX9_lay_33 : decode cX9_lay 33 = .ok (.iconst 1, 1) := by decide +kernel
theorem dX9_lay_34 : decode cX9_lay 34 = .ok (.isub, 1) := by decide +kernel
theorem dX9_lay_35 : decode cX9_lay 35 = .ok (.i2l, 1) := by decide +kernel
theorem dX9_lay_36 : decode cX9_lay 36 = .ok (.invokestatic 56, 3) := by decide +kernel
theorem dX9_lay_39 : decode cX9_lay 39 = .ok (.ifCond .ne 6, 3) := by decide +kernel
theorem dX9_lay_42 : decode cX9_lay 42 = .ok (.bipush (-12), 2) := by decide +kernel
theorem dX9_lay_44 : decode cX9_lay 44 = .ok (.ireturn, 1) := by decide +kernel
theorem dX9_lay_45 : decode cX9_lay 45 = .ok (.aload_n 0, 1) := by decide +kernel
theorem dX9_lay_46 : decode cX9_lay 46 = .ok (.getfield 38, 3) := by decide +kernel
theorem dX9_lay_49 : decode cX9_lay 49 = .ok (.bipush 40, 2) := by decide +kernel
theorem dX9_lay_51 : decode cX9_lay 51 = .ok (.iload_n 1, 1) := by decide +kernel
theorem dX9_lay_52 : decode cX9_lay 52 = .ok (.imul, 1) := by decide +kernel
theorem dX9_lay_53 : decode cX9_lay 53 = .ok (.iload_n 2, 1) := by decide +kernel
theorem dX9_lay_54 : decode cX9_lay 54 = .ok (.iadd, 1) := by decide +kernel
theorem dX9_lay_55 : decode cX9_lay 55 = .ok (.aload_n 0, 1) := by decide +kernel
theorem dX9_lay_56 : decode cX9_lay 56 = .ok (.getfield 32, 3) := by decide +kernel
theorem dX9_lay_59 : decode cX9_lay 59 = .ok (.iload_n 1, 1) := by decide +kernel
theorem dX9_lay_60 : decode cX9_lay 60 = .ok (.iaload, 1) := by decide +kernel
theorem dX9_lay_61 : decode cX9_lay 61 = .ok (.ifCond .ne 8, 3) := by decide +kernel
theorem dX9_lay_64 : decode cX9_lay 64 = .ok (.iload_n 3, 1) := by decide +kernel
theorem dX9_lay_65 : decode cX9_lay 65 = .ok (.i2b, 1) := by decide +kernel
theorem dX9_lay_66 : decode cX9_lay 66 = .ok (.goto 19, 3) := by decide +kernel
theorem dX9_lay_69 : decode cX9_lay 69 = .ok (.aload_n 0, 1) := by decide +kernel
theorem dX9_lay_70 : decode cX9_lay 70 = .ok (.getfield 32, 3) := by decide +kernel
theorem dX9_lay_73 : decode cX9_lay 73 = .ok (.iload_n 1, 1) := by decide +kernel
theorem dX9_lay_74 : decode cX9_lay 74 = .ok (.iaload, 1) := by decide +kernel
theorem dX9_lay_75 : decode cX9_lay 75 = .ok (.iconst 1, 1) := by decide +kernel
theorem dX9_lay_76 : decode cX9_lay 76 = .ok (.if_icmp .ne 8, 3) := by decide +kernel
theorem dX9_lay_79 : decode cX9_lay 79 = .ok (.iload_n 3, 1) := by decide +kernel
theorem dX9_lay_80 : decode cX9_lay 80 = .ok (.i2s, 1) := by decide +kernel
theorem dX9_lay_81 : decode cX9_lay 81 = .ok (.goto 4, 3) := by decide +kernel
theorem dX9_lay_84 : decode cX9_lay 84 = .ok (.iload_n 3, 1) := by decide +kernel
theorem dX9_lay_85 : decode cX9_lay 85 = .ok (.iastore, 1) := by decide +kernel
theorem dX9_lay_86 : decode cX9_lay 86 = .ok (.iconst 1, 1) := by decide +kernel
theorem dX9_lay_87 : decode cX9_lay 87 = .ok (.ireturn, 1) := by decide +kernel
def f_X9_lay (Λ : List Ly) (d : Dt) (p0 : Nat) (v1 : Int32) (v2 : Int32) (v3 : Int32) : Option (Int32 × Dt) := if (f_X9_isSheet v1 (0 : Int32)) = 0 then (some ((-1 : Int32), d)) else (Option.bind (rf Λ p0 9 20) fun q2 => if okA Λ q2 1 v1 = true then (if (d.1 q2 (v1).toNatClampNeg) = (-4 : Int32) then (some ((-11 : Int32), d)) else (Option.bind (rf Λ p0 9 21) fun q5 => if okA Λ q5 1 v1 = true then (if (f_X9_in (v2).toInt64 (0 : Int64) (((d.1 q5 (v1).toNatClampNeg) - (1 : Int32))).toInt64) = 0 then (some ((-12 : Int32), d)) else (Option.bind (rf Λ p0 9 22) fun q8 => if (d.1 q2 (v1).toNatClampNeg) = 0 then (if okA Λ q8 1 (((40 : Int32) * v1) + v2) = true then (some ((1 : Int32), (pI d q8 ((((40 : Int32) * v1) + v2)).toNatClampNeg (v3).toInt8.toInt32))) else none) else (if (d.1 q2 (v1).toNatClampNeg) = (1 : Int32) then (if okA Λ q8 1 (((40 : Int32) * v1) + v2) = true then (some ((1 : Int32), (pI d q8 ((((40 : Int32) * v1) + v2)).toNatClampNeg (v3).toInt16.toInt32))) else none) else (if okA Λ q8 1 (((40 : Int32) * v1) + v2) = true then (some ((1 : Int32), (pI d q8 ((((40 : Int32) * v1) + v2)).toNatClampNeg v3))) else none)))) else none)) else none)
set_option maxHeartbeats 4000000 in
set_option maxRecDepth 100000 in
theorem c_X9_lay (Γ : Cx) (l : Launch) (Λ : List Ly) (d : Dt) (p0 : Nat) (v1 : Int32) (v2 : Int32) (v3 : Int32) (z : Int32 × Dt) (hf : f_X9_lay Λ d p0 v1 v2 v3 = some z) : Cn Γ l yX9_lay cX9_lay 4 (some FieldType.int) 2 46 [.ref (Γ.2.2.1 + p0), .int v1, .int v2, .int v3] Λ d (some (.int z.1)) z.2 := by
  refine Cn.of (own := "SeasonBoundModel") (by decide +kernel) rfl (Nat.le_of_ble_eq_true rfl) ?_
  intro p e s m below meth c C0 hr hlocks hH ls hl
  have hl : lv_has ls 4 [(0, .ref (Γ.2.2.1 + p0)), (1, .int v1), (2, .int v2), (3, .int v3)] := hl
  obtain ⟨hx, hb, hml, hown, hts, hK⟩ := id C0
  unfold f_X9_lay at hf
  refine lv_iload_n hx hb dX9_lay_0 rfl (lv_at hl 1 rfl) ?_
  refine lv_iconst (v := (0 : Int32)) hx hb dX9_lay_1 (by decide) ?_
  refine r_callSi (rest := []) C0 hH (c_X9_isSheet Γ l Λ d v1 (0 : Int32)) cs_X9_279 (by decide) rfl hl.1 rfl (Nat.le_of_ble_eq_true rfl) dX9_lay_2 (by decide) (fun H locs hH => ?_)
  refine lv_if_ne (tgt := 10) hx hb dX9_lay_5 (by decide) (fun c1 => ?_) (fun c1 => ?_)
  · replace hf := ie hf c1
    refine lv_aload_n hx hb dX9_lay_10 rfl (lv_at hl 0 rfl) ?_
    obtain ⟨q2, g2, hf⟩ := ob hf
    refine r_getr C0 hH fl_X9_32 g2 dX9_lay_11 ?_
    refine lv_iload_n hx hb dX9_lay_14 rfl (lv_at hl 1 rfl) ?_
    obtain ⟨g3, hf⟩ := gd hf
    refine r_iald C0 hH g3 dX9_lay_15 ?_
    refine lv_bipush (v := (-4 : Int32)) hx hb dX9_lay_16 (by decide) ?_
    refine lv_icmp_ne (tgt := 24) hx hb dX9_lay_18 (by decide) (fun c4 => ?_) (fun c4 => ?_)
    · replace hf := ie hf c4
      refine lv_iload_n hx hb dX9_lay_24 rfl (lv_at hl 2 rfl) ?_
      refine lv_i2l (v := (v2).toInt64) hx hb dX9_lay_25 rfl ?_
      refine lv_lconst (v := (0 : Int64)) hx hb dX9_lay_26 (by decide) ?_
      refine lv_aload_n hx hb dX9_lay_27 rfl (lv_at hl 0 rfl) ?_
      obtain ⟨q5, g5, hf⟩ := ob hf
      refine r_getr C0 hH fl_X9_35 g5 dX9_lay_28 ?_
      refine lv_iload_n hx hb dX9_lay_31 rfl (lv_at hl 1 rfl) ?_
      obtain ⟨g6, hf⟩ := gd hf
      refine r_iald C0 hH g6 dX9_lay_32 ?_
      refine lv_iconst (v := (1 : Int32)) hx hb dX9_lay_33 (by decide) ?_
      refine lv_isub hx hb dX9_lay_34 ?_
      refine lv_i2l (v := (((d.1 q5 (v1).toNatClampNeg) - (1 : Int32))).toInt64) hx hb dX9_lay_35 rfl ?_
      refine r_callSi (rest := []) C0 hH (c_X9_in Γ l Λ d (v2).toInt64 (0 : Int64) (((d.1 q5 (v1).toNatClampNeg) - (1 : Int32))).toInt64) cs_X9_56 (by decide) rfl hl.1 rfl (Nat.le_of_ble_eq_true rfl) dX9_lay_36 (by decide) (fun H locs hH => ?_)
      refine lv_if_ne (tgt := 45) hx hb dX9_lay_39 (by decide) (fun c7 => ?_) (fun c7 => ?_)
      · replace hf := ie hf c7
        refine lv_aload_n hx hb dX9_lay_45 rfl (lv_at hl 0 rfl) ?_
        obtain ⟨q8, g8, hf⟩ := ob hf
        refine r_getr C0 hH fl_X9_38 g8 dX9_lay_46 ?_
        refine lv_bipush (v := (40 : Int32)) hx hb dX9_lay_49 (by decide) ?_
        refine lv_iload_n hx hb dX9_lay_51 rfl (lv_at hl 1 rfl) ?_
        refine lv_imul hx hb dX9_lay_52 ?_
        refine lv_iload_n hx hb dX9_lay_53 rfl (lv_at hl 2 rfl) ?_
        refine lv_iadd hx hb dX9_lay_54 ?_
        refine lv_aload_n hx hb dX9_lay_55 rfl (lv_at hl 0 rfl) ?_
        refine r_getr C0 hH fl_X9_32 g2 dX9_lay_56 ?_
        refine lv_iload_n hx hb dX9_lay_59 rfl (lv_at hl 1 rfl) ?_
        refine r_iald C0 hH g3 dX9_lay_60 ?_
        refine lv_if_ne (tgt := 69) hx hb dX9_lay_61 (by decide) (fun c9 => ?_) (fun c9 => ?_)
        · replace hf := ie hf c9
          refine lv_aload_n hx hb dX9_lay_69 rfl (lv_at hl 0 rfl) ?_
          refine r_getr C0 hH fl_X9_32 g2 dX9_lay_70 ?_
          refine lv_iload_n hx hb dX9_lay_73 rfl (lv_at hl 1 rfl) ?_
          refine r_iald C0 hH g3 dX9_lay_74 ?_
          refine lv_iconst (v := (1 : Int32)) hx hb dX9_lay_75 (by decide) ?_
          refine lv_icmp_ne (tgt := 84) hx hb dX9_lay_76 (by decide) (fun c10 => ?_) (fun c10 => ?_)
          · replace hf := ie hf c10
            refine lv_iload_n hx hb dX9_lay_84 rfl (lv_at hl 3 rfl) ?_
            obtain ⟨g11, hf⟩ := gd hf
            refine r_iast C0 hH g11 dX9_lay_85 (fun H locs hH => ?_)
            refine lv_iconst (v := (1 : Int32)) hx hb dX9_lay_86 (by decide) ?_
            obtain rfl := Option.some.inj hf
            exact r_iret (d' := d) C0 hr hlocks hH rfl dX9_lay_87
          · replace hf := it hf c10
            refine lv_iload_n hx hb dX9_lay_79 rfl (lv_at hl 3 rfl) ?_
            refine lv_i2s (v := (v3).toInt16.toInt32) hx hb dX9_lay_80 rfl ?_
            refine lv_goto (tgt := 85) hx hb dX9_lay_81 (by decide) ?_
            obtain ⟨g12, hf⟩ := gd hf
            refine r_iast C0 hH g12 dX9_lay_85 (fun H locs hH => ?_)
            refine lv_iconst (v := (1 : Int32)) hx hb dX9_lay_86 (by decide) ?_
            obtain rfl := Option.some.inj hf
            exact r_iret (d' := d) C0 hr hlocks hH rfl dX9_lay_87
        · replace hf := it hf c9
          refine lv_iload_n hx hb dX9_lay_64 rfl (lv_at hl 3 rfl) ?_
          refine lv_i2b (v := (v3).toInt8.toInt32) hx hb dX9_lay_65 rfl ?_
          refine lv_goto (tgt := 85) hx hb dX9_lay_66 (by decide) ?_
          obtain ⟨g13, hf⟩ := gd hf
          refine r_iast C0 hH g13 dX9_lay_85 (fun H locs hH => ?_)
          refine lv_iconst (v := (1 : Int32)) hx hb dX9_lay_86 (by decide) ?_
          obtain rfl := Option.some.inj hf
          exact r_iret (d' := d) C0 hr hlocks hH rfl dX9_lay_87
      · replace hf := it hf c7
        refine lv_bipush (v := (-12 : Int32)) hx hb dX9_lay_42 (by decide) ?_
        obtain rfl := Option.some.inj hf
        exact r_iret (d' := d) C0 hr hlocks hH rfl dX9_lay_44
    · replace hf := it hf c4
      refine lv_bipush (v := (-11 : Int32)) hx hb dX9_lay_21 (by decide) ?_
      obtain rfl := Option.some.inj hf
      exact r_iret (d' := d) C0 hr hlocks hH rfl dX9_lay_23
  · replace hf := it hf c1
    refine lv_iconst (v := (-1 : Int32)) hx hb dX9_lay_8 (by decide) ?_
    obtain rfl := Option.some.inj hf
    exact r_iret (d' := d) C0 hr hlocks hH rfl dX9_lay_9
theorem dX9_read_0 : decode cX9_read 0 = .ok (.iload_n 1, 1) := by decide +kernel
theorem dX9_read_1 : decode cX9_read 1 = .ok (.iload_n 2, 1) := by decide +kernel
theorem dX9_read_2 : decode cX9_read 2 = .ok (.invokestatic 279, 3) := by decide +kernel
theorem dX9_read_5 : decode cX9_read 5 = .ok (.ifCond .eq 16, 3) := by decide +kernel
theorem dX9_read_8 : decode cX9_read 8 = .ok (.iload 4, 2) := by decide +kernel
theorem dX9_read_10 : decode cX9_read 10 = .ok (.i2l, 1) := by decide +kernel
theorem dX9_read_11 : decode cX9_read 11 = .ok (.lconst 0, 1) := by decide +kernel
theorem dX9_read_12 : decode cX9_read 12 = .ok (.ldc2_w 282, 3) := by decide +kernel
theorem dX9_read_15 : decode cX9_read 15 = .ok (.invokestatic 56, 3) := by decide +kernel
theorem dX9_read_18 : decode cX9_read 18 = .ok (.ifCond .ne 5, 3) := by decide +kernel
theorem dX9_read_21 : decode cX9_read 21 = .ok (.iconst (-1), 1) := by decide +kernel
theorem dX9_read_22 : decode cX9_read 22 = .ok (.ireturn, 1) := by decide +kernel
theorem dX9_read_23 : decode cX9_read 23 = .ok (.iconst 0, 1) := by decide +kernel
theorem dX9_read_24 : decode cX9_read 24 = .ok (.istore 5, 2) := by decide +kernel
theorem dX9_read_26 : decode cX9_read 26 = .ok (.iload 5, 2) := by decide +kernel
theorem dX9_read_28 : decode cX9_read 28 = .ok (.bipush 60, 2) := by decide +kernel
theorem dX9_read_30 : decode cX9_read 30 = .ok (.if_icmp .ge 23, 3) := by decide +kernel
theorem dX9_read_33 : decode cX9_read 33 = .ok (.aload_n 0, 1) := by decide +kernel
theorem dX9_read_34 : decode cX9_read 34 = .ok (.getfield 41, 3) := by decide +kernel
theorem dX9_read_37 : decode cX9_read 37 = .ok (.iload 5, 2) := by decide +kernel
theorem dX9_read_39 : decode cX9_read 39 = .ok (.aload_n 0, 1) := by decide +kernel
theorem dX9_read_40 : decode cX9_read 40 = .ok (.getfield 7, 3) := by decide +kernel
theorem dX9_read_43 : decode cX9_read 43 = .ok (.iload 5, 2) := by decide +kernel
theorem dX9_read_45 : decode cX9_read 45 = .ok (.iaload, 1) := by decide +kernel
theorem dX9_read_46 : decode cX9_read 46 = .ok (.iastore, 1) := by decide +kernel
theorem dX9_read_47 : decode cX9_read 47 = .ok (.iinc 5 1, 3) := by decide +kernel
theorem dX9_read_50 : decode cX9_read 50 = .ok (.goto (-24), 3) := by decide +kernel
theorem dX9_read_53 : decode cX9_read 53 = .ok (.iconst 0, 1) := by decide +kernel
theorem dX9_read_54 : decode cX9_read 54 = .ok (.istore 5, 2) := by decide +kernel
theorem dX9_read_56 : decode cX9_read 56 = .ok (.iconst 0, 1) := by decide +kernel
theorem dX9_read_57 : decode cX9_read 57 = .ok (.istore 6, 2) := by decide +kernel
theorem dX9_read_59 : decode cX9_read 59 = .ok (.iconst 0, 1) := by decide +kernel
theorem dX9_read_60 : decode cX9_read 60 = .ok (.istore 7, 2) := by decide +kernel
theorem dX9_read_62 : decode cX9_read 62 = .ok (.iload 7, 2) := by decide +kernel
theorem dX9_read_64 : decode cX9_read 64 = .ok (.iload 4, 2) := by decide +kernel
theorem dX9_read_66 : decode cX9_read 66 = .ok (.if_icmp .ge 193, 3) := by decide +kernel
theorem dX9_read_69 : decode cX9_read 69 = .ok (.iload 5, 2) := by decide +kernel
theorem dX9_read_71 : decode cX9_read 71 = .ok (.ifCond .ne 188, 3) := by decide +kernel
theorem dX9_read_74 : decode cX9_read 74 = .ok (.iconst 0, 1) := by decide +kernel
theorem dX9_read_75 : decode cX9_read 75 = .ok (.istore 8, 2) := by decide +kernel
theorem dX9_read_77 : decode cX9_read 77 = .ok (.iload 8, 2) := by decide +kernel
theorem dX9_read_79 : decode cX9_read 79 = .ok (.iconst 3, 1) := by decide +kernel
theorem dX9_read_80 : decode cX9_read 80 = .ok (.if_icmp .ge 84, 3) := by decide +kernel
theorem dX9_read_83 : decode cX9_read 83 = .ok (.iload 5, 2) := by decide +kernel
theorem dX9_read_85 : decode cX9_read 85 = .ok (.ifCond .ne 79, 3) := by decide +kernel
theorem dX9_read_88 : decode cX9_read 88 = .ok (.iload_n 3, 1) := by decide +kernel
theorem dX9_read_89 : decode cX9_read 89 = .ok (.i2l, 1) := by decide +kernel
theorem dX9_read_90 : decode cX9_read 90 = .ok (.iconst 3, 1) := by decide +kernel
theorem dX9_read_91 : decode cX9_read 91 = .ok (.iload 7, 2) := by decide +kernel
theorem dX9_read_93 : decode cX9_read 93 = .ok (.imul, 1) := by decide +kernel
theorem dX9_read_94 : decode cX9_read 94 = .ok (.i2l, 1) := by decide +kernel
theorem dX9_read_95 : decode cX9_read 95 = .ok (.ladd, 1) := by decide +kernel
theorem dX9_read_96 : decode cX9_read 96 = .ok (.iload 8, 2) := by decide +kernel
theorem dX9_read_98 : decode cX9_read 98 = .ok (.i2l, 1) := by decide +kernel
theorem dX9_read_99 : decode cX9_read 99 = .ok (.ladd, 1) := by decide +kernel
theorem dX9_read_100 : decode cX9_read 100 = .ok (.lstore 9, 2) := by decide +kernel
theorem dX9_read_102 : decode cX9_read 102 = .ok (.aload_n 0, 1) := by decide +kernel
theorem dX9_read_103 : decode cX9_read 103 = .ok (.getfield 32, 3) := by decide +kernel
theorem dX9_read_106 : decode cX9_read 106 = .ok (.iload_n 1, 1) := by decide +kernel
theorem dX9_read_107 : decode cX9_read 107 = .ok (.iaload, 1) := by decide +kernel
theorem dX9_read_108 : decode cX9_read 108 = .ok (.bipush (-4), 2) := by decide +kernel
theorem dX9_read_110 : decode cX9_read 110 = .ok (.if_icmp .ne 7, 3) := by decide +kernel
theorem dX9_read_113 : decode cX9_read 113 = .ok (.iconst 1, 1) := by decide +kernel
theorem dX9_read_114 : decode cX9_read 114 = .ok (.goto 42, 3) := by decide +kernel
theorem dX9_read_117 : decode cX9_read 117 = .ok (.aload_n 0, 1) := by decide +kernel
theorem dX9_read_118 : decode cX9_read 118 = .ok (.getfield 32, 3) := by decide +kernel
theorem dX9_read_121 : decode cX9_read 121 = .ok (.iload_n 1, 1) := by decide +kernel
theorem dX9_read_122 : decode cX9_read 122 = .ok (.iaload, 1) := by decide +kernel
theorem dX9_read_123 : decode cX9_read 123 = .ok (.iload_n 2, 1) := by decide +kernel
theorem dX9_read_124 : decode cX9_read 124 = .ok (.if_icmp .eq 7, 3) := by decide +kernel
theorem dX9_read_127 : decode cX9_read 127 = .ok (.iconst 3, 1) := by decide +kernel
theorem dX9_read_128 : decode cX9_read 128 = .ok (.goto 28, 3) := by decide +kernel
theorem dX9_read_131 : decode cX9_read 131 = .ok (.lload 9, 2) := by decide +kernel
theorem dX9_read_133 : decode cX9_read 133 = .ok (.lconst 0, 1) := by decide +kernel
theorem dX9_read_134 : decode cX9_read 134 = .ok (.lcmp, 1) := by decide +kernel
theorem dX9_read_135 : decode cX9_read 135 = .ok (.ifCond .lt 16, 3) := by decide +kernel
theorem dX9_read_138 : decode cX9_read 138 = .ok (.lload 9, 2) := by decide +kernel
theorem dX9_read_140 : decode cX9_read 140 = .ok (.aload_n 0, 1) := by decide +kernel
theorem dX9_read_141 : decode cX9_read 141 = .ok (.getfield 35, 3) := by decide +kernel
theorem dX9_read_144 : decode cX9_read 144 = .ok (.iload_n 1, 1) := by decide +kernel
theorem dX9_read_145 : decode cX9_read 145 = .ok (.iaload, 1) := by decide +kernel
theorem dX9_read_146 : decode cX9_read 146 = .ok (.i2l, 1) := by decide +kernel
theorem dX9_read_147 : decode cX9_read 147 = .ok (.lcmp, 1) := by decide +kernel
theorem dX9_read_148 : decode cX9_read 148 = .ok (.ifCond .lt 7, 3) := by decide +kernel
theorem dX9_read_151 : decode cX9_read 151 = .ok (.iconst 2, 1) := by decide +kernel
theorem dX9_read_152 : decode cX9_read 152 = .ok (.goto 4, 3) := by decide +kernel
theorem dX9_read_155 : decode cX9_read 155 = .ok (.iconst 0, 1) := by decide +kernel
theorem dX9_read_156 : decode cX9_read 156 = .ok (.istore 5, 2) := by decide +kernel
theorem dX9_read_158 : decode cX9_read 158 = .ok (.iinc 8 1, 3) := by decide +kernel
theorem dX9_read_161 : decode cX9_read 161 = .ok (.goto (-84), 3) := by decide +kernel
theorem dX9_read_164 : decode cX9_read 164 = .ok (.iload 5, 2) := by decide +kernel
theorem dX9_read_166 : decode cX9_read 166 = .ok (.ifCond .ne 87, 3) := by decide +kernel
theorem dX9_read_169 : decode cX9_read 169 = .ok (.bipush 40, 2) := by decide +kernel
theorem dX9_read_171 : decode cX9_read 171 = .ok (.iload_n 1, 1) := by decide +kernel
theorem dX9_read_172 : decode cX9_read 172 = .ok (.imul, 1) := by decide +kernel
theorem dX9_read_173 : decode cX9_read 173 = .ok (.iload_n 3, 1) := by decide +kernel
theorem dX9_read_174 : decode cX9_read 174 = .ok (.iadd, 1) := by decide +kernel
theorem dX9_read_175 : decode cX9_read 175 = .ok (.iconst 3, 1) := by decide +kernel
theorem dX9_read_176 : decode cX9_read 176 = .ok (.iload 7, 2) := by decide +kernel
theorem dX9_read_178 : decode cX9_read 178 = .ok (.imul, 1) := by decide +kernel
theorem dX9_read_179 : decode cX9_read 179 = .ok (.iadd, 1) := by decide +kernel
theorem dX9_read_180 : decode cX9_read 180 = .ok (.istore 8, 2) := by decide +kernel
theorem dX9_read_182 : decode cX9_read 182 = .ok (.aload_n 0, 1) := by decide +kernel
theorem dX9_read_183 : decode cX9_read 183 = .ok (.aload_n 0, 1) := by decide +kernel
theorem dX9_read_184 : decode cX9_read 184 = .ok (.getfield 38, 3) := by decide +kernel
theorem dX9_read_187 : decode cX9_read 187 = .ok (.iload 8, 2) := by decide +kernel
theorem dX9_read_189 : decode cX9_read 189 = .ok (.iaload, 1) := by decide +kernel
theorem dX9_read_190 : decode cX9_read 190 = .ok (.aload_n 0, 1) := by decide +kernel
theorem dX9_read_191 : decode cX9_read 191 = .ok (.getfield 38, 3) := by decide +kernel
theorem dX9_read_194 : decode cX9_read 194 = .ok (.iload 8, 2) := by decide +kernel
theorem dX9_read_196 : decode cX9_read 196 = .ok (.iconst 1, 1) := by decide +kernel
theorem dX9_read_197 : decode cX9_read 197 = .ok (.iadd, 1) := by decide +kernel
theorem dX9_read_198 : decode cX9_read 198 = .ok (.iaload, 1) := by decide +kernel
theorem dX9_read_199 : decode cX9_read 199 = .ok (.aload_n 0, 1) := by decide +kernel
theorem dX9_read_200 : decode cX9_read 200 = .ok (.getfield 38, 3) := by decide +kernel
theorem dX9_read_203 : decode cX9_read 203 = .ok (.iload 8, 2) := by decide +kernel
theorem dX9_read_205 : decode cX9_read 205 = .ok (.iconst 2, 1) := by decide +kernel
theorem dX9_read_206 : decode cX9_read 206 = .ok (.iadd, 1) := by decide +kernel
theorem dX9_read_207 : decode cX9_read 207 = .ok (.iaload, 1) := by decide +kernel
theorem dX9_read_208 : decode cX9_read 208 = .ok (.invokevirtual 284, 3) := by decide +kernel
theorem dX9_read_211 : decode cX9_read 211 = .ok (.ifCond .ge 39, 3) := by decide +kernel
theorem dX9_read_214 : decode cX9_read 214 = .ok (.iconst 0, 1) := by decide +kernel
theorem dX9_read_215 : decode cX9_read 215 = .ok (.istore 9, 2) := by decide +kernel
theorem dX9_read_217 : decode cX9_read 217 = .ok (.iload 9, 2) := by decide +kernel
theorem dX9_read_219 : decode cX9_read 219 = .ok (.bipush 60, 2) := by decide +kernel
theorem dX9_read_221 : decode cX9_read 221 = .ok (.if_icmp .ge 23, 3) := by decide +kernel
theorem dX9_read_224 : decode cX9_read 224 = .ok (.aload_n 0, 1) := by decide +kernel
theorem dX9_read_225 : decode cX9_read 225 = .ok (.getfield 7, 3) := by decide +kernel
theorem dX9_read_228 : decode cX9_read 228 = .ok (.iload 9, 2) := by decide +kernel
theorem dX9_read_230 : decode cX9_read 230 = .ok (.aload_n 0, 1) := by decide +kernel
theorem dX9_read_231 : decode cX9_read 231 = .ok (.getfield 41, 3) := by decide +kernel
theorem dX9_read_234 : decode cX9_read 234 = .ok (.iload 9, 2) := by decide +kernel
theorem dX9_read_236 : decode cX9_read 236 = .ok (.iaload, 1) := by decide +kernel
theorem dX9_read_237 : decode cX9_read 237 = .ok (.iastore, 1) := by decide +kernel
theorem dX9_read_238 : decode cX9_read 238 = .ok (.iinc 9 1, 3) := by decide +kernel
theorem dX9_read_241 : decode cX9_read 241 = .ok (.goto (-24), 3) := by decide +kernel
theorem dX9_read_244 : decode cX9_read 244 = .ok (.bipush (-20), 2) := by decide +kernel
theorem dX9_read_246 : decode cX9_read 246 = .ok (.iload 7, 2) := by decide +kernel
theorem dX9_read_248 : decode cX9_read 248 = .ok (.isub, 1) := by decide +kernel
theorem dX9_read_249 : decode cX9_read 249 = .ok (.ireturn, 1) := by decide +kernel
theorem dX9_read_250 : decode cX9_read 250 = .ok (.iinc 6 1, 3) := by decide +kernel
theorem dX9_read_253 : decode cX9_read 253 = .ok (.iinc 7 1, 3) := by decide +kernel
theorem dX9_read_256 : decode cX9_read 256 = .ok (.goto (-194), 3) := by decide +kernel
theorem dX9_read_259 : decode cX9_read 259 = .ok (.aload_n 0, 1) := by decide +kernel
theorem dX9_read_260 : decode cX9_read 260 = .ok (.iload 5, 2) := by decide +kernel
theorem dX9_read_262 : decode cX9_read 262 = .ok (.putfield 288, 3) := by decide +kernel
theorem dX9_read_265 : decode cX9_read 265 = .ok (.iload 6, 2) := by decide +kernel
theorem dX9_read_267 : decode cX9_read 267 = .ok (.ireturn, 1) := by decide +kernel
def f_X9_read_L26 (Λ : List Ly) (p0 : Nat) (v1 : Int32) (v2 : Int32) (v3 : Int32) (v4 : Int32) (k53 : Int32 → Dt → Option (Int32 × Dt)) : Nat → Int32 → Dt → Option (Int32 × Dt)
  | 0, _, _ => none
  | n + 1, v5, d => if (60 : Int32) ≤ v5 then (k53 v5 d) else (Option.bind (rf Λ p0 9 24) fun q4 => Option.bind (rf Λ p0 9 0) fun q5 => if okA Λ q5 1 v5 = true then (if okA Λ q4 1 v5 = true then (f_X9_read_L26 Λ p0 v1 v2 v3 v4 k53 n (v5 + (1 : Int32)) (pI d q4 (v5).toNatClampNeg (d.1 q5 (v5).toNatClampNeg))) else none) else none)
def f_X9_read_L77 (Λ : List Ly) (d : Dt) (p0 : Nat) (v1 : Int32) (v2 : Int32) (v3 : Int32) (v4 : Int32) (v6 : Int32) (v7 : Int32) (k164 : Int32 → Int32 → Option (Int32 × Dt)) : Nat → Int32 → Int32 → Option (Int32 × Dt)
  | 0, _, _ => none
  | n + 1, v5, v8 => if (3 : Int32) ≤ v8 then (k164 v5 v8) else (if v5 = 0 then (Option.bind (rf Λ p0 9 20) fun q15 => if okA Λ q15 1 v1 = true then (if (d.1 q15 (v1).toNatClampNeg) = (-4 : Int32) then (f_X9_read_L77 Λ d p0 v1 v2 v3 v4 v6 v7 k164 n (1 : Int32) (v8 + (1 : Int32))) else (if (d.1 q15 (v1).toNatClampNeg) = v2 then (if (lg_cmp (((v3).toInt64 + (((3 : Int32) * v7)).toInt64) + (v8).toInt64) (0 : Int64)) < 0 then (f_X9_read_L77 Λ d p0 v1 v2 v3 v4 v6 v7 k164 n (2 : Int32) (v8 + (1 : Int32))) else (Option.bind (rf Λ p0 9 21) fun q20 => if okA Λ q20 1 v1 = true then (if (lg_cmp (((v3).toInt64 + (((3 : Int32) * v7)).toInt64) + (v8).toInt64) ((d.1 q20 (v1).toNatClampNeg)).toInt64) < 0 then (f_X9_read_L77 Λ d p0 v1 v2 v3 v4 v6 v7 k164 n (0 : Int32) (v8 + (1 : Int32))) else (f_X9_read_L77 Λ d p0 v1 v2 v3 v4 v6 v7 k164 n (2 : Int32) (v8 + (1 : Int32)))) else none)) else (f_X9_read_L77 Λ d p0 v1 v2 v3 v4 v6 v7 k164 n (3 : Int32) (v8 + (1 : Int32))))) else none) else (k164 v5 v8))
def f_X9_read_L217 (Λ : List Ly) (p0 : Nat) (v7 : Int32) : Nat → Int32 → Dt → Option (Int32 × Dt)
  | 0, _, _ => none
  | n + 1, v9, d => if (60 : Int32) ≤ v9 then (some (((-20 : Int32) - v7), d)) else (Option.bind (rf Λ p0 9 0) fun q33 => Option.bind (rf Λ p0 9 24) fun q34 => if okA Λ q34 1 v9 = true then (if okA Λ q33 1 v9 = true then (f_X9_read_L217 Λ p0 v7 n (v9 + (1 : Int32)) (pI d q33 (v9).toNatClampNeg (d.1 q34 (v9).toNatClampNeg))) else none) else none)
def f_X9_read_J164 (Λ : List Ly) (d : Dt) (kb : Int32 → Int32 → Int32 → Dt → Option (Int32 × Dt)) (p0 : Nat) (v1 : Int32) (v2 : Int32) (v3 : Int32) (v4 : Int32) (v5 : Int32) (v6 : Int32) (v7 : Int32) : Option (Int32 × Dt) := if v5 = 0 then (Option.bind (rf Λ p0 9 22) fun q25 => if okA Λ q25 1 ((((40 : Int32) * v1) + v3) + ((3 : Int32) * v7)) = true then (if okA Λ q25 1 (((((40 : Int32) * v1) + v3) + ((3 : Int32) * v7)) + (1 : Int32)) = true then (if okA Λ q25 1 (((((40 : Int32) * v1) + v3) + ((3 : Int32) * v7)) + (2 : Int32)) = true then (if clsAt Λ p0 = some 9 then (Option.bind (f_X9_bind Λ d p0 (d.1 q25 (((((40 : Int32) * v1) + v3) + ((3 : Int32) * v7))).toNatClampNeg) (d.1 q25 ((((((40 : Int32) * v1) + v3) + ((3 : Int32) * v7)) + (1 : Int32))).toNatClampNeg) (d.1 q25 ((((((40 : Int32) * v1) + v3) + ((3 : Int32) * v7)) + (2 : Int32))).toNatClampNeg)) fun z30 => if 0 ≤ z30.1 then (kb v5 (v6 + (1 : Int32)) (v7 + (1 : Int32)) z30.2) else (f_X9_read_L217 Λ p0 v7 FU (0 : Int32) z30.2)) else none) else none) else none) else none) else (kb v5 v6 (v7 + (1 : Int32)) d)
def f_X9_read_L62 (Λ : List Ly) (p0 : Nat) (v1 : Int32) (v2 : Int32) (v3 : Int32) (v4 : Int32) : Nat → Int32 → Int32 → Int32 → Dt → Option (Int32 × Dt)
  | 0, _, _, _, _ => none
  | n + 1, v5, v6, v7, d => if v4 ≤ v7 then (if clsAt Λ p0 = some 9 then (some (v6, (pI d p0 23 v5))) else none) else (if v5 = 0 then (f_X9_read_L77 Λ d p0 v1 v2 v3 v4 v6 v7 (fun x23_5 x23_8 => f_X9_read_J164 Λ d (f_X9_read_L62 Λ p0 v1 v2 v3 v4 n) p0 v1 v2 v3 v4 x23_5 v6 v7) FU v5 (0 : Int32)) else (if clsAt Λ p0 = some 9 then (some (v6, (pI d p0 23 v5))) else none))
def f_X9_read (Λ : List Ly) (d : Dt) (p0 : Nat) (v1 : Int32) (v2 : Int32) (v3 : Int32) (v4 : Int32) : Option (Int32 × Dt) := if (f_X9_isSheet v1 v2) = 0 then (some ((-1 : Int32), d)) else (if (f_X9_in (v4).toInt64 (0 : Int64) (13 : Int64)) = 0 then (some ((-1 : Int32), d)) else (f_X9_read_L26 Λ p0 v1 v2 v3 v4 (fun x8_5 d8 => f_X9_read_L62 Λ p0 v1 v2 v3 v4 FU (0 : Int32) (0 : Int32) (0 : Int32) d8) FU (0 : Int32) d))
set_option maxHeartbeats 4000000 in
set_option maxRecDepth 100000 in
theorem w_X9_read_L26 {p : Program} {l : Launch} {e : Env} {s : State} {m : MethodId} {args : Array Value} {below : List Frame} {meth : Method} {c : Code} {Γ : Cx} {Λ : List Ly} {z : Int32 × Dt} (C0 : Ct Γ p s m args c cX9_read 11 "SeasonBoundModel") (hr : meth.sig.returnType = (some FieldType.int)) (hlocks : meth.locks = false) (k53 : Int32 → Dt → Option (Int32 × Dt)) (p0 : Nat) (v1 : Int32) (v2 : Int32) (v3 : Int32) (v4 : Int32)
    (hk53 : ∀ (v5 : Int32) (d : Dt), (k53 v5 d = some z) → ∀ (H : Heap) (locs : List Loc) (ls : Array Slot), Hs Γ Λ d s H locs → lv_has ls 11 [(0, .ref (Γ.2.2.1 + p0)), (1, .int v1), (2, .int v2), (3, .int v3), (4, .int v4), (5, .int v5)] → W p l e { frames := 3, cells := 0, slots := 0, locals := 71 } s m args below meth c H locs 0 0 (MQ below (QN Γ Λ z.2 (some (.int z.1))) args s 0 0 (AP Γ)) (F0 m 53 ls [])) :
    ∀ (n : Nat) (v5 : Int32) (d : Dt), f_X9_read_L26 Λ p0 v1 v2 v3 v4 k53 n v5 d = some z → ∀ (H : Heap) (locs : List Loc) (ls : Array Slot), Hs Γ Λ d s H locs → lv_has ls 11 [(0, .ref (Γ.2.2.1 + p0)), (1, .int v1), (2, .int v2), (3, .int v3), (4, .int v4), (5, .int v5)] → W p l e { frames := 3, cells := 0, slots := 0, locals := 71 } s m args below meth c H locs 0 0 (MQ below (QN Γ Λ z.2 (some (.int z.1))) args s 0 0 (AP Γ)) (F0 m 26 ls []) := by
  obtain ⟨hx, hb, hml, hown, hts, hK⟩ := id C0
  intro n
  induction n with
  | zero =>
    intro v5 d hf
    cases hf
  | succ n ih =>
    intro v5 d hf H locs ls hH hl
    unfold f_X9_read_L26 at hf
    refine lv_iload hx hb dX9_read_26 (lv_at hl 5 rfl) ?_
    refine lv_bipush (v := (60 : Int32)) hx hb dX9_read_28 (by decide) ?_
    refine lv_icmp_ge (tgt := 53) hx hb dX9_read_30 (by decide) (fun c3 => ?_) (fun c3 => ?_)
    · replace hf := it hf c3
      exact hk53 v5 d hf _ _ _ hH (lv_sub hl [0, 1, 2, 3, 4, 5] rfl)
    · replace hf := ie hf c3
      refine lv_aload_n hx hb dX9_read_33 rfl (lv_at hl 0 rfl) ?_
      obtain ⟨q4, g4, hf⟩ := ob hf
      refine r_getr C0 hH fl_X9_41 g4 dX9_read_34 ?_
      refine lv_iload hx hb dX9_read_37 (lv_at hl 5 rfl) ?_
      refine lv_aload_n hx hb dX9_read_39 rfl (lv_at hl 0 rfl) ?_
      obtain ⟨q5, g5, hf⟩ := ob hf
      refine r_getr C0 hH fl_X9_7 g5 dX9_read_40 ?_
      refine lv_iload hx hb dX9_read_43 (lv_at hl 5 rfl) ?_
      obtain ⟨g6, hf⟩ := gd hf
      refine r_iald C0 hH g6 dX9_read_45 ?_
      obtain ⟨g7, hf⟩ := gd hf
      refine r_iast C0 hH g7 dX9_read_46 (fun H locs hH => ?_)
      refine lv_iinc (v := (v5 + (1 : Int32))) (lv' := [(5, .int (v5 + (1 : Int32))), (0, .ref (Γ.2.2.1 + p0)), (1, .int v1), (2, .int v2), (3, .int v3), (4, .int v4)]) hx hb dX9_read_47 hl (k := 5) rfl (congrArg (fun w => v5 + w) (by decide)) (by decide) rfl (fun ls hl => ?_)
      refine lv_goto (tgt := 26) hx hb dX9_read_50 (by decide) ?_
      exact ih (v5 + (1 : Int32)) (pI d q4 (v5).toNatClampNeg (d.1 q5 (v5).toNatClampNeg)) hf _ _ _ hH (lv_sub hl [1, 2, 3, 4, 5, 0] rfl)
set_option maxHeartbeats 4000000 in
set_option maxRecDepth 100000 in
theorem w_X9_read_L77 {p : Program} {l : Launch} {e : Env} {s : State} {m : MethodId} {args : Array Value} {below : List Frame} {meth : Method} {c : Code} {Γ : Cx} {Λ : List Ly} {z : Int32 × Dt} {d : Dt} (C0 : Ct Γ p s m args c cX9_read 11 "SeasonBoundModel") (hr : meth.sig.returnType = (some FieldType.int)) (hlocks : meth.locks = false) (k164 : Int32 → Int32 → Option (Int32 × Dt)) (p0 : Nat) (v1 : Int32) (v2 : Int32) (v3 : Int32) (v4 : Int32) (v6 : Int32) (v7 : Int32)
    (hk164 : ∀ (v5 : Int32) (v8 : Int32), (k164 v5 v8 = some z) → ∀ (H : Heap) (locs : List Loc) (ls : Array Slot), Hs Γ Λ d s H locs → lv_has ls 11 [(0, .ref (Γ.2.2.1 + p0)), (1, .int v1), (2, .int v2), (3, .int v3), (4, .int v4), (5, .int v5), (6, .int v6), (7, .int v7), (8, .int v8)] → W p l e { frames := 3, cells := 0, slots := 0, locals := 71 } s m args below meth c H locs 0 0 (MQ below (QN Γ Λ z.2 (some (.int z.1))) args s 0 0 (AP Γ)) (F0 m 164 ls [])) :
    ∀ (n : Nat) (v5 : Int32) (v8 : Int32), f_X9_read_L77 Λ d p0 v1 v2 v3 v4 v6 v7 k164 n v5 v8 = some z → ∀ (H : Heap) (locs : List Loc) (ls : Array Slot), Hs Γ Λ d s H locs → lv_has ls 11 [(0, .ref (Γ.2.2.1 + p0)), (1, .int v1), (2, .int v2), (3, .int v3), (4, .int v4), (5, .int v5), (6, .int v6), (7, .int v7), (8, .int v8)] → W p l e { frames := 3, cells := 0, slots := 0, locals := 71 } s m args below meth c H locs 0 0 (MQ below (QN Γ Λ z.2 (some (.int z.1))) args s 0 0 (AP Γ)) (F0 m 77 ls []) := by
  obtain ⟨hx, hb, hml, hown, hts, hK⟩ := id C0
  intro n
  induction n with
  | zero =>
    intro v5 v8 hf
    cases hf
  | succ n ih =>
    intro v5 v8 hf H locs ls hH hl
    unfold f_X9_read_L77 at hf
    refine lv_iload hx hb dX9_read_77 (lv_at hl 8 rfl) ?_
    refine lv_iconst (v := (3 : Int32)) hx hb dX9_read_79 (by decide) ?_
    refine lv_icmp_ge (tgt := 164) hx hb dX9_read_80 (by decide) (fun c13 => ?_) (fun c13 => ?_)
    · replace hf := it hf c13
      exact hk164 v5 v8 hf _ _ _ hH (lv_sub hl [0, 1, 2, 3, 4, 5, 6, 7, 8] rfl)
    · replace hf := ie hf c13
      refine lv_iload hx hb dX9_read_83 (lv_at hl 5 rfl) ?_
      refine lv_if_ne (tgt := 164) hx hb dX9_read_85 (by decide) (fun c14 => ?_) (fun c14 => ?_)
      · replace hf := ie hf c14
        exact hk164 v5 v8 hf _ _ _ hH (lv_sub hl [0, 1, 2, 3, 4, 5, 6, 7, 8] rfl)
      · replace hf := it hf c14
        refine lv_iload_n hx hb dX9_read_88 rfl (lv_at hl 3 rfl) ?_
        refine lv_i2l (v := (v3).toInt64) hx hb dX9_read_89 rfl ?_
        refine lv_iconst (v := (3 : Int32)) hx hb dX9_read_90 (by decide) ?_
        refine lv_iload hx hb dX9_read_91 (lv_at hl 7 rfl) ?_
        refine lv_imul hx hb dX9_read_93 ?_
        refine lv_i2l (v := (((3 : Int32) * v7)).toInt64) hx hb dX9_read_94 rfl ?_
        refine lv_ladd hx hb dX9_read_95 ?_
        refine lv_iload hx hb dX9_read_96 (lv_at hl 8 rfl) ?_
        refine lv_i2l (v := (v8).toInt64) hx hb dX9_read_98 rfl ?_
        refine lv_ladd hx hb dX9_read_99 ?_
        refine lv_lstore (lv' := [(9, .long (((v3).toInt64 + (((3 : Int32) * v7)).toInt64) + (v8).toInt64)), (0, .ref (Γ.2.2.1 + p0)), (1, .int v1), (2, .int v2), (3, .int v3), (4, .int v4), (5, .int v5), (6, .int v6), (7, .int v7), (8, .int v8)]) hx hb dX9_read_100 hl (by decide) rfl (fun ls hl => ?_)
        refine lv_aload_n hx hb dX9_read_102 rfl (lv_at hl 1 rfl) ?_
        obtain ⟨q15, g15, hf⟩ := ob hf
        refine r_getr C0 hH fl_X9_32 g15 dX9_read_103 ?_
        refine lv_iload_n hx hb dX9_read_106 rfl (lv_at hl 2 rfl) ?_
        obtain ⟨g16, hf⟩ := gd hf
        refine r_iald C0 hH g16 dX9_read_107 ?_
        refine lv_bipush (v := (-4 : Int32)) hx hb dX9_read_108 (by decide) ?_
        refine lv_icmp_ne (tgt := 117) hx hb dX9_read_110 (by decide) (fun c17 => ?_) (fun c17 => ?_)
        · replace hf := ie hf c17
          refine lv_aload_n hx hb dX9_read_117 rfl (lv_at hl 1 rfl) ?_
          refine r_getr C0 hH fl_X9_32 g15 dX9_read_118 ?_
          refine lv_iload_n hx hb dX9_read_121 rfl (lv_at hl 2 rfl) ?_
          refine r_iald C0 hH g16 dX9_read_122 ?_
          refine lv_iload_n hx hb dX9_read_123 rfl (lv_at hl 3 rfl) ?_
          refine lv_icmp_eq (tgt := 131) hx hb dX9_read_124 (by decide) (fun c18 => ?_) (fun c18 => ?_)
          · replace hf := it hf c18
            refine lv_lload hx hb dX9_read_131 (lv_at hl 0 rfl) ?_
            refine lv_lconst (v := (0 : Int64)) hx hb dX9_read_133 (by decide) ?_
            refine W.lcmp hx hb dX9_read_134 ?_
            refine lv_if_lt (tgt := 151) hx hb dX9_read_135 (by decide) (fun c19 => ?_) (fun c19 => ?_)
            · replace hf := it hf c19
              refine lv_iconst (v := (2 : Int32)) hx hb dX9_read_151 (by decide) ?_
              refine lv_goto (tgt := 156) hx hb dX9_read_152 (by decide) ?_
              refine lv_istore (lv' := [(5, .int (2 : Int32)), (9, .long (((v3).toInt64 + (((3 : Int32) * v7)).toInt64) + (v8).toInt64)), (0, .ref (Γ.2.2.1 + p0)), (1, .int v1), (2, .int v2), (3, .int v3), (4, .int v4), (6, .int v6), (7, .int v7), (8, .int v8)]) hx hb dX9_read_156 hl (by decide) rfl (fun ls hl => ?_)
              refine lv_iinc (v := (v8 + (1 : Int32))) (lv' := [(8, .int (v8 + (1 : Int32))), (5, .int (2 : Int32)), (9, .long (((v3).toInt64 + (((3 : Int32) * v7)).toInt64) + (v8).toInt64)), (0, .ref (Γ.2.2.1 + p0)), (1, .int v1), (2, .int v2), (3, .int v3), (4, .int v4), (6, .int v6), (7, .int v7)]) hx hb dX9_read_158 hl (k := 9) rfl (congrArg (fun w => v8 + w) (by decide)) (by decide) rfl (fun ls hl => ?_)
              refine lv_goto (tgt := 77) hx hb dX9_read_161 (by decide) ?_
              exact ih (2 : Int32) (v8 + (1 : Int32)) hf _ _ _ hH (lv_sub hl [3, 4, 5, 6, 7, 1, 8, 9, 0] rfl)
            · replace hf := ie hf c19
              refine lv_lload hx hb dX9_read_138 (lv_at hl 0 rfl) ?_
              refine lv_aload_n hx hb dX9_read_140 rfl (lv_at hl 1 rfl) ?_
              obtain ⟨q20, g20, hf⟩ := ob hf
              refine r_getr C0 hH fl_X9_35 g20 dX9_read_141 ?_
              refine lv_iload_n hx hb dX9_read_144 rfl (lv_at hl 2 rfl) ?_
              obtain ⟨g21, hf⟩ := gd hf
              refine r_iald C0 hH g21 dX9_read_145 ?_
              refine lv_i2l (v := ((d.1 q20 (v1).toNatClampNeg)).toInt64) hx hb dX9_read_146 rfl ?_
              refine W.lcmp hx hb dX9_read_147 ?_
              refine lv_if_lt (tgt := 155) hx hb dX9_read_148 (by decide) (fun c22 => ?_) (fun c22 => ?_)
              · replace hf := it hf c22
                refine lv_iconst (v := (0 : Int32)) hx hb dX9_read_155 (by decide) ?_
                refine lv_istore (lv' := [(5, .int (0 : Int32)), (9, .long (((v3).toInt64 + (((3 : Int32) * v7)).toInt64) + (v8).toInt64)), (0, .ref (Γ.2.2.1 + p0)), (1, .int v1), (2, .int v2), (3, .int v3), (4, .int v4), (6, .int v6), (7, .int v7), (8, .int v8)]) hx hb dX9_read_156 hl (by decide) rfl (fun ls hl => ?_)
                refine lv_iinc (v := (v8 + (1 : Int32))) (lv' := [(8, .int (v8 + (1 : Int32))), (5, .int (0 : Int32)), (9, .long (((v3).toInt64 + (((3 : Int32) * v7)).toInt64) + (v8).toInt64)), (0, .ref (Γ.2.2.1 + p0)), (1, .int v1), (2, .int v2), (3, .int v3), (4, .int v4), (6, .int v6), (7, .int v7)]) hx hb dX9_read_158 hl (k := 9) rfl (congrArg (fun w => v8 + w) (by decide)) (by decide) rfl (fun ls hl => ?_)
                refine lv_goto (tgt := 77) hx hb dX9_read_161 (by decide) ?_
                exact ih (0 : Int32) (v8 + (1 : Int32)) hf _ _ _ hH (lv_sub hl [3, 4, 5, 6, 7, 1, 8, 9, 0] rfl)
              · replace hf := ie hf c22
                refine lv_iconst (v := (2 : Int32)) hx hb dX9_read_151 (by decide) ?_
                refine lv_goto (tgt := 156) hx hb dX9_read_152 (by decide) ?_
                refine lv_istore (lv' := [(5, .int (2 : Int32)), (9, .long (((v3).toInt64 + (((3 : Int32) * v7)).toInt64) + (v8).toInt64)), (0, .ref (Γ.2.2.1 + p0)), (1, .int v1), (2, .int v2), (3, .int v3), (4, .int v4), (6, .int v6), (7, .int v7), (8, .int v8)]) hx hb dX9_read_156 hl (by decide) rfl (fun ls hl => ?_)
                refine lv_iinc (v := (v8 + (1 : Int32))) (lv' := [(8, .int (v8 + (1 : Int32))), (5, .int (2 : Int32)), (9, .long (((v3).toInt64 + (((3 : Int32) * v7)).toInt64) + (v8).toInt64)), (0, .ref (Γ.2.2.1 + p0)), (1, .int v1), (2, .int v2), (3, .int v3), (4, .int v4), (6, .int v6), (7, .int v7)]) hx hb dX9_read_158 hl (k := 9) rfl (congrArg (fun w => v8 + w) (by decide)) (by decide) rfl (fun ls hl => ?_)
                refine lv_goto (tgt := 77) hx hb dX9_read_161 (by decide) ?_
                exact ih (2 : Int32) (v8 + (1 : Int32)) hf _ _ _ hH (lv_sub hl [3, 4, 5, 6, 7, 1, 8, 9, 0] rfl)
          · replace hf := ie hf c18
            refine lv_iconst (v := (3 : Int32)) hx hb dX9_read_127 (by decide) ?_
            refine lv_goto (tgt := 156) hx hb dX9_read_128 (by decide) ?_
            refine lv_istore (lv' := [(5, .int (3 : Int32)), (9, .long (((v3).toInt64 + (((3 : Int32) * v7)).toInt64) + (v8).toInt64)), (0, .ref (Γ.2.2.1 + p0)), (1, .int v1), (2, .int v2), (3, .int v3), (4, .int v4), (6, .int v6), (7, .int v7), (8, .int v8)]) hx hb dX9_read_156 hl (by decide) rfl (fun ls hl => ?_)
            refine lv_iinc (v := (v8 + (1 : Int32))) (lv' := [(8, .int (v8 + (1 : Int32))), (5, .int (3 : Int32)), (9, .long (((v3).toInt64 + (((3 : Int32) * v7)).toInt64) + (v8).toInt64)), (0, .ref (Γ.2.2.1 + p0)), (1, .int v1), (2, .int v2), (3, .int v3), (4, .int v4), (6, .int v6), (7, .int v7)]) hx hb dX9_read_158 hl (k := 9) rfl (congrArg (fun w => v8 + w) (by decide)) (by decide) rfl (fun ls hl => ?_)
            refine lv_goto (tgt := 77) hx hb dX9_read_161 (by decide) ?_
            exact ih (3 : Int32) (v8 + (1 : Int32)) hf _ _ _ hH (lv_sub hl [3, 4, 5, 6, 7, 1, 8, 9, 0] rfl)
        · replace hf := it hf c17
          refine lv_iconst (v := (1 : Int32)) hx hb dX9_read_113 (by decide) ?_
          refine lv_goto (tgt := 156) hx hb dX9_read_114 (by decide) ?_
          refine lv_istore (lv' := [(5, .int (1 : Int32)), (9, .long (((v3).toInt64 + (((3 : Int32) * v7)).toInt64) + (v8).toInt64)), (0, .ref (Γ.2.2.1 + p0)), (1, .int v1), (2, .int v2), (3, .int v3), (4, .int v4), (6, .int v6), (7, .int v7), (8, .int v8)]) hx hb dX9_read_156 hl (by decide) rfl (fun ls hl => ?_)
          refine lv_iinc (v := (v8 + (1 : Int32))) (lv' := [(8, .int (v8 + (1 : Int32))), (5, .int (1 : Int32)), (9, .long (((v3).toInt64 + (((3 : Int32) * v7)).toInt64) + (v8).toInt64)), (0, .ref (Γ.2.2.1 + p0)), (1, .int v1), (2, .int v2), (3, .int v3), (4, .int v4), (6, .int v6), (7, .int v7)]) hx hb dX9_read_158 hl (k := 9) rfl (congrArg (fun w => v8 + w) (by decide)) (by decide) rfl (fun ls hl => ?_)
          refine lv_goto (tgt := 77) hx hb dX9_read_161 (by decide) ?_
          exact ih (1 : Int32) (v8 + (1 : Int32)) hf _ _ _ hH (lv_sub hl [3, 4, 5, 6, 7, 1, 8, 9, 0] rfl)
set_option maxHeartbeats 4000000 in
set_option maxRecDepth 100000 in
theorem w_X9_read_L217 {p : Program} {l : Launch} {e : Env} {s : State} {m : MethodId} {args : Array Value} {below : List Frame} {meth : Method} {c : Code} {Γ : Cx} {Λ : List Ly} {z : Int32 × Dt} (C0 : Ct Γ p s m args c cX9_read 11 "SeasonBoundModel") (hr : meth.sig.returnType = (some FieldType.int)) (hlocks : meth.locks = false) (p0 : Nat) (v7 : Int32) :
    ∀ (n : Nat) (v9 : Int32) (d : Dt), f_X9_read_L217 Λ p0 v7 n v9 d = some z → ∀ (H : Heap) (locs : List Loc) (ls : Array Slot), Hs Γ Λ d s H locs → lv_has ls 11 [(0, .ref (Γ.2.2.1 + p0)), (7, .int v7), (9, .int v9)] → W p l e { frames := 3, cells := 0, slots := 0, locals := 71 } s m args below meth c H locs 0 0 (MQ below (QN Γ Λ z.2 (some (.int z.1))) args s 0 0 (AP Γ)) (F0 m 217 ls []) := by
  obtain ⟨hx, hb, hml, hown, hts, hK⟩ := id C0
  intro n
  induction n with
  | zero =>
    intro v9 d hf
    cases hf
  | succ n ih =>
    intro v9 d hf H locs ls hH hl
    unfold f_X9_read_L217 at hf
    refine lv_iload hx hb dX9_read_217 (lv_at hl 2 rfl) ?_
    refine lv_bipush (v := (60 : Int32)) hx hb dX9_read_219 (by decide) ?_
    refine lv_icmp_ge (tgt := 244) hx hb dX9_read_221 (by decide) (fun c32 => ?_) (fun c32 => ?_)
    · replace hf := it hf c32
      refine lv_bipush (v := (-20 : Int32)) hx hb dX9_read_244 (by decide) ?_
      refine lv_iload hx hb dX9_read_246 (lv_at hl 1 rfl) ?_
      refine lv_isub hx hb dX9_read_248 ?_
      obtain rfl := Option.some.inj hf
      exact r_iret (d' := d) C0 hr hlocks hH rfl dX9_read_249
    · replace hf := ie hf c32
      refine lv_aload_n hx hb dX9_read_224 rfl (lv_at hl 0 rfl) ?_
      obtain ⟨q33, g33, hf⟩ := ob hf
      refine r_getr C0 hH fl_X9_7 g33 dX9_read_225 ?_
      refine lv_iload hx hb dX9_read_228 (lv_at hl 2 rfl) ?_
      refine lv_aload_n hx hb dX9_read_230 rfl (lv_at hl 0 rfl) ?_
      obtain ⟨q34, g34, hf⟩ := ob hf
      refine r_getr C0 hH fl_X9_41 g34 dX9_read_231 ?_
      refine lv_iload hx hb dX9_read_234 (lv_at hl 2 rfl) ?_
      obtain ⟨g35, hf⟩ := gd hf
      refine r_iald C0 hH g35 dX9_read_236 ?_
      obtain ⟨g36, hf⟩ := gd hf
      refine r_iast C0 hH g36 dX9_read_237 (fun H locs hH => ?_)
      refine lv_iinc (v := (v9 + (1 : Int32))) (lv' := [(9, .int (v9 + (1 : Int32))), (0, .ref (Γ.2.2.1 + p0)), (7, .int v7)]) hx hb dX9_read_238 hl (k := 2) rfl (congrArg (fun w => v9 + w) (by decide)) (by decide) rfl (fun ls hl => ?_)
      refine lv_goto (tgt := 217) hx hb dX9_read_241 (by decide) ?_
      exact ih (v9 + (1 : Int32)) (pI d q33 (v9).toNatClampNeg (d.1 q34 (v9).toNatClampNeg)) hf _ _ _ hH (lv_sub hl [1, 2, 0] rfl)
set_option maxHeartbeats 4000000 in
set_option maxRecDepth 100000 in
theorem w_X9_read_J164 {p : Program} {l : Launch} {e : Env} {s : State} {m : MethodId} {args : Array Value} {below : List Frame} {meth : Method} {c : Code} {Γ : Cx} {Λ : List Ly} {z : Int32 × Dt} {d : Dt} (C0 : Ct Γ p s m args c cX9_read 11 "SeasonBoundModel") (hr : meth.sig.returnType = (some FieldType.int)) (hlocks : meth.locks = false) (kb : Int32 → Int32 → Int32 → Dt → Option (Int32 × Dt)) (p0 : Nat) (v1 : Int32) (v2 : Int32) (v3 : Int32) (v4 : Int32) (v5 : Int32) (v6 : Int32) (v7 : Int32)
    (hkb : ∀ (w0 : Int32) (w1 : Int32) (w2 : Int32) (d : Dt), (kb w0 w1 w2 d = some z) → ∀ (H : Heap) (locs : List Loc) (ls : Array Slot), Hs Γ Λ d s H locs → lv_has ls 11 [(0, .ref (Γ.2.2.1 + p0)), (1, .int v1), (2, .int v2), (3, .int v3), (4, .int v4), (5, .int w0), (6, .int w1), (7, .int w2)] → W p l e { frames := 3, cells := 0, slots := 0, locals := 71 } s m args below meth c H locs 0 0 (MQ below (QN Γ Λ z.2 (some (.int z.1))) args s 0 0 (AP Γ)) (F0 m 62 ls []))
    (hf : f_X9_read_J164 Λ d kb p0 v1 v2 v3 v4 v5 v6 v7 = some z) (H : Heap) (locs : List Loc) (ls : Array Slot) (hH : Hs Γ Λ d s H locs) (hl : lv_has ls 11 [(0, .ref (Γ.2.2.1 + p0)), (1, .int v1), (2, .int v2), (3, .int v3), (4, .int v4), (5, .int v5), (6, .int v6), (7, .int v7)]) : W p l e { frames := 3, cells := 0, slots := 0, locals := 71 } s m args below meth c H locs 0 0 (MQ below (QN Γ Λ z.2 (some (.int z.1))) args s 0 0 (AP Γ)) (F0 m 164 ls []) := by
  obtain ⟨hx, hb, hml, hown, hts, hK⟩ := id C0
  unfold f_X9_read_J164 at hf
  refine lv_iload hx hb dX9_read_164 (lv_at hl 5 rfl) ?_
  refine lv_if_ne (tgt := 253) hx hb dX9_read_166 (by decide) (fun c24 => ?_) (fun c24 => ?_)
  · replace hf := ie hf c24
    refine lv_iinc (v := (v7 + (1 : Int32))) (lv' := [(7, .int (v7 + (1 : Int32))), (0, .ref (Γ.2.2.1 + p0)), (1, .int v1), (2, .int v2), (3, .int v3), (4, .int v4), (5, .int v5), (6, .int v6)]) hx hb dX9_read_253 hl (k := 7) rfl (congrArg (fun w => v7 + w) (by decide)) (by decide) rfl (fun ls hl => ?_)
    refine lv_goto (tgt := 62) hx hb dX9_read_256 (by decide) ?_
    exact hkb v5 v6 (v7 + (1 : Int32)) d hf _ _ _ hH (lv_sub hl [1, 2, 3, 4, 5, 6, 7, 0] rfl)
  · replace hf := it hf c24
    refine lv_bipush (v := (40 : Int32)) hx hb dX9_read_169 (by decide) ?_
    refine lv_iload_n hx hb dX9_read_171 rfl (lv_at hl 1 rfl) ?_
    refine lv_imul hx hb dX9_read_172 ?_
    refine lv_iload_n hx hb dX9_read_173 rfl (lv_at hl 3 rfl) ?_
    refine lv_iadd hx hb dX9_read_174 ?_
    refine lv_iconst (v := (3 : Int32)) hx hb dX9_read_175 (by decide) ?_
    refine lv_iload hx hb dX9_read_176 (lv_at hl 7 rfl) ?_
    refine lv_imul hx hb dX9_read_178 ?_
    refine lv_iadd hx hb dX9_read_179 ?_
    refine lv_istore (lv' := [(8, .int ((((40 : Int32) * v1) + v3) + ((3 : Int32) * v7))), (0, .ref (Γ.2.2.1 + p0)), (1, .int v1), (2, .int v2), (3, .int v3), (4, .int v4), (5, .int v5), (6, .int v6), (7, .int v7)]) hx hb dX9_read_180 hl (by decide) rfl (fun ls hl => ?_)
    refine lv_aload_n hx hb dX9_read_182 rfl (lv_at hl 1 rfl) ?_
    refine lv_aload_n hx hb dX9_read_183 rfl (lv_at hl 1 rfl) ?_
    obtain ⟨q25, g25, hf⟩ := ob hf
    refine r_getr C0 hH fl_X9_38 g25 dX9_read_184 ?_
    refine lv_iload hx hb dX9_read_187 (lv_at hl 0 rfl) ?_
    obtain ⟨g26, hf⟩ := gd hf
    refine r_iald C0 hH g26 dX9_read_189 ?_
    refine lv_aload_n hx hb dX9_read_190 rfl (lv_at hl 1 rfl) ?_
    refine r_getr C0 hH fl_X9_38 g25 dX9_read_191 ?_
    refine lv_iload hx hb dX9_read_194 (lv_at hl 0 rfl) ?_
    refine lv_iconst (v := (1 : Int32)) hx hb dX9_read_196 (by decide) ?_
    refine lv_iadd hx hb dX9_read_197 ?_
    obtain ⟨g27, hf⟩ := gd hf
    refine r_iald C0 hH g27 dX9_read_198 ?_
    refine lv_aload_n hx hb dX9_read_199 rfl (lv_at hl 1 rfl) ?_
    refine r_getr C0 hH fl_X9_38 g25 dX9_read_200 ?_
    refine lv_iload hx hb dX9_read_203 (lv_at hl 0 rfl) ?_
    refine lv_iconst (v := (2 : Int32)) hx hb dX9_read_205 (by decide) ?_
    refine lv_iadd hx hb dX9_read_206 ?_
    obtain ⟨g28, hf⟩ := gd hf
    refine r_iald C0 hH g28 dX9_read_207 ?_
    obtain ⟨g29, hf⟩ := gd hf
    obtain ⟨z30, h30, hf⟩ := ob hf
    refine r_callVi (rest := []) C0 hH (c_X9_bind Γ l Λ d p0 (d.1 q25 (((((40 : Int32) * v1) + v3) + ((3 : Int32) * v7))).toNatClampNeg) (d.1 q25 ((((((40 : Int32) * v1) + v3) + ((3 : Int32) * v7)) + (1 : Int32))).toNatClampNeg) (d.1 q25 ((((((40 : Int32) * v1) + v3) + ((3 : Int32) * v7)) + (2 : Int32))).toNatClampNeg) z30 h30) cv_X9_284 g29 (by decide) rfl hl.1 rfl (Nat.le_of_ble_eq_true rfl) dX9_read_208 (by decide) (fun H locs hH => ?_)
    refine lv_if_ge (tgt := 250) hx hb dX9_read_211 (by decide) (fun c31 => ?_) (fun c31 => ?_)
    · replace hf := it hf c31
      refine lv_iinc (v := (v6 + (1 : Int32))) (lv' := [(6, .int (v6 + (1 : Int32))), (8, .int ((((40 : Int32) * v1) + v3) + ((3 : Int32) * v7))), (0, .ref (Γ.2.2.1 + p0)), (1, .int v1), (2, .int v2), (3, .int v3), (4, .int v4), (5, .int v5), (7, .int v7)]) hx hb dX9_read_250 hl (k := 7) rfl (congrArg (fun w => v6 + w) (by decide)) (by decide) rfl (fun ls hl => ?_)
      refine lv_iinc (v := (v7 + (1 : Int32))) (lv' := [(7, .int (v7 + (1 : Int32))), (6, .int (v6 + (1 : Int32))), (8, .int ((((40 : Int32) * v1) + v3) + ((3 : Int32) * v7))), (0, .ref (Γ.2.2.1 + p0)), (1, .int v1), (2, .int v2), (3, .int v3), (4, .int v4), (5, .int v5)]) hx hb dX9_read_253 hl (k := 8) rfl (congrArg (fun w => v7 + w) (by decide)) (by decide) rfl (fun ls hl => ?_)
      refine lv_goto (tgt := 62) hx hb dX9_read_256 (by decide) ?_
      exact hkb v5 (v6 + (1 : Int32)) (v7 + (1 : Int32)) z30.2 hf _ _ _ hH (lv_sub hl [3, 4, 5, 6, 7, 8, 1, 0] rfl)
    · replace hf := ie hf c31
      refine lv_iconst (v := (0 : Int32)) hx hb dX9_read_214 (by decide) ?_
      refine lv_istore (lv' := [(9, .int (0 : Int32)), (8, .int ((((40 : Int32) * v1) + v3) + ((3 : Int32) * v7))), (0, .ref (Γ.2.2.1 + p0)), (1, .int v1), (2, .int v2), (3, .int v3), (4, .int v4), (5, .int v5), (6, .int v6), (7, .int v7)]) hx hb dX9_read_215 hl (by decide) rfl (fun ls hl => ?_)
      refine w_X9_read_L217 C0 hr hlocks p0 v7 FU (0 : Int32) z30.2 hf _ _ _ hH (lv_sub hl [2, 9, 0] rfl)
set_option maxHeartbeats 4000000 in
set_option maxRecDepth 100000 in
theorem w_X9_read_L62 {p : Program} {l : Launch} {e : Env} {s : State} {m : MethodId} {args : Array Value} {below : List Frame} {meth : Method} {c : Code} {Γ : Cx} {Λ : List Ly} {z : Int32 × Dt} (C0 : Ct Γ p s m args c cX9_read 11 "SeasonBoundModel") (hr : meth.sig.returnType = (some FieldType.int)) (hlocks : meth.locks = false) (p0 : Nat) (v1 : Int32) (v2 : Int32) (v3 : Int32) (v4 : Int32) :
    ∀ (n : Nat) (v5 : Int32) (v6 : Int32) (v7 : Int32) (d : Dt), f_X9_read_L62 Λ p0 v1 v2 v3 v4 n v5 v6 v7 d = some z → ∀ (H : Heap) (locs : List Loc) (ls : Array Slot), Hs Γ Λ d s H locs → lv_has ls 11 [(0, .ref (Γ.2.2.1 + p0)), (1, .int v1), (2, .int v2), (3, .int v3), (4, .int v4), (5, .int v5), (6, .int v6), (7, .int v7)] → W p l e { frames := 3, cells := 0, slots := 0, locals := 71 } s m args below meth c H locs 0 0 (MQ below (QN Γ Λ z.2 (some (.int z.1))) args s 0 0 (AP Γ)) (F0 m 62 ls []) := by
  obtain ⟨hx, hb, hml, hown, hts, hK⟩ := id C0
  intro n
  induction n with
  | zero =>
    intro v5 v6 v7 d hf
    cases hf
  | succ n ih =>
    intro v5 v6 v7 d hf H locs ls hH hl
    unfold f_X9_read_L62 at hf
    refine lv_iload hx hb dX9_read_62 (lv_at hl 7 rfl) ?_
    refine lv_iload hx hb dX9_read_64 (lv_at hl 4 rfl) ?_
    refine lv_icmp_ge (tgt := 259) hx hb dX9_read_66 (by decide) (fun c9 => ?_) (fun c9 => ?_)
    · replace hf := it hf c9
      refine lv_aload_n hx hb dX9_read_259 rfl (lv_at hl 0 rfl) ?_
      refine lv_iload hx hb dX9_read_260 (lv_at hl 5 rfl) ?_
      obtain ⟨g10, hf⟩ := gd hf
      refine r_puti C0 hH fw_X9_288 g10 rfl dX9_read_262 (fun H locs hH => ?_)
      refine lv_iload hx hb dX9_read_265 (lv_at hl 6 rfl) ?_
      obtain rfl := Option.some.inj hf
      exact r_iret (d' := d) C0 hr hlocks hH rfl dX9_read_267
    · replace hf := ie hf c9
      refine lv_iload hx hb dX9_read_69 (lv_at hl 5 rfl) ?_
      refine lv_if_ne (tgt := 259) hx hb dX9_read_71 (by decide) (fun c11 => ?_) (fun c11 => ?_)
      · replace hf := ie hf c11
        refine lv_aload_n hx hb dX9_read_259 rfl (lv_at hl 0 rfl) ?_
        refine lv_iload hx hb dX9_read_260 (lv_at hl 5 rfl) ?_
        obtain ⟨g12, hf⟩ := gd hf
        refine r_puti C0 hH fw_X9_288 g12 rfl dX9_read_262 (fun H locs hH => ?_)
        refine lv_iload hx hb dX9_read_265 (lv_at hl 6 rfl) ?_
        obtain rfl := Option.some.inj hf
        exact r_iret (d' := d) C0 hr hlocks hH rfl dX9_read_267
      · replace hf := it hf c11
        refine lv_iconst (v := (0 : Int32)) hx hb dX9_read_74 (by decide) ?_
        refine lv_istore (lv' := [(8, .int (0 : Int32)), (0, .ref (Γ.2.2.1 + p0)), (1, .int v1), (2, .int v2), (3, .int v3), (4, .int v4), (5, .int v5), (6, .int v6), (7, .int v7)]) hx hb dX9_read_75 hl (by decide) rfl (fun ls hl => ?_)
        refine w_X9_read_L77 C0 hr hlocks _ p0 v1 v2 v3 v4 v6 v7 ?k164 FU v5 (0 : Int32) hf _ _ _ hH (lv_sub hl [1, 2, 3, 4, 5, 6, 7, 8, 0] rfl)
        case k164 =>
          intro x23_5 x23_8 hf H locs ls hH hl
          exact w_X9_read_J164 C0 hr hlocks _ p0 v1 v2 v3 v4 x23_5 v6 v7 ih hf _ _ _ hH (lv_sub hl [0, 1, 2, 3, 4, 5, 6, 7] rfl)
set_option maxHeartbeats 4000000 in
set_option maxRecDepth 100000 in
theorem c_X9_read (Γ : Cx) (l : Launch) (Λ : List Ly) (d : Dt) (p0 : Nat) (v1 : Int32) (v2 : Int32) (v3 : Int32) (v4 : Int32) (z : Int32 × Dt) (hf : f_X9_read Λ d p0 v1 v2 v3 v4 = some z) : Cn Γ l yX9_read cX9_read 11 (some FieldType.int) 3 71 [.ref (Γ.2.2.1 + p0), .int v1, .int v2, .int v3, .int v4] Λ d (some (.int z.1)) z.2 := by
  refine Cn.of (own := "SeasonBoundModel") (by decide +kernel) rfl (Nat.le_of_ble_eq_true rfl) ?_
  intro p e s m below meth c C0 hr hlocks hH ls hl
  have hl : lv_has ls 11 [(0, .ref (Γ.2.2.1 + p0)), (1, .int v1), (2, .int v2), (3, .int v3), (4, .int v4)] := hl
  obtain ⟨hx, hb, hml, hown, hts, hK⟩ := id C0
  unfold f_X9_read at hf
  refine lv_iload_n hx hb dX9_read_0 rfl (lv_at hl 1 rfl) ?_
  refine lv_iload_n hx hb dX9_read_1 rfl (lv_at hl 2 rfl) ?_
  refine r_callSi (rest := []) C0 hH (c_X9_isSheet Γ l Λ d v1 v2) cs_X9_279 (by decide) rfl hl.1 rfl (Nat.le_of_ble_eq_true rfl) dX9_read_2 (by decide) (fun H locs hH => ?_)
  refine lv_if_eq (tgt := 21) hx hb dX9_read_5 (by decide) (fun c1 => ?_) (fun c1 => ?_)
  · replace hf := it hf c1
    refine lv_iconst (v := (-1 : Int32)) hx hb dX9_read_21 (by decide) ?_
    obtain rfl := Option.some.inj hf
    exact r_iret (d' := d) C0 hr hlocks hH rfl dX9_read_22
  · replace hf := ie hf c1
    refine lv_iload hx hb dX9_read_8 (lv_at hl 4 rfl) ?_
    refine lv_i2l (v := (v4).toInt64) hx hb dX9_read_10 rfl ?_
    refine lv_lconst (v := (0 : Int64)) hx hb dX9_read_11 (by decide) ?_
    refine lv_ldc2 hx hb hown (hts _ kl_X9_282) dX9_read_12 ?_
    refine r_callSi (rest := []) C0 hH (c_X9_in Γ l Λ d (v4).toInt64 (0 : Int64) (13 : Int64)) cs_X9_56 (by decide) rfl hl.1 rfl (Nat.le_of_ble_eq_true rfl) dX9_read_15 (by decide) (fun H locs hH => ?_)
    refine lv_if_ne (tgt := 23) hx hb dX9_read_18 (by decide) (fun c2 => ?_) (fun c2 => ?_)
    · replace hf := ie hf c2
      refine lv_iconst (v := (0 : Int32)) hx hb dX9_read_23 (by decide) ?_
      refine lv_istore (lv' := [(5, .int (0 : Int32)), (0, .ref (Γ.2.2.1 + p0)), (1, .int v1), (2, .int v2), (3, .int v3), (4, .int v4)]) hx hb dX9_read_24 hl (by decide) rfl (fun ls hl => ?_)
      refine w_X9_read_L26 C0 hr hlocks _ p0 v1 v2 v3 v4 ?k53 FU (0 : Int32) d hf _ _ _ hH (lv_sub hl [1, 2, 3, 4, 5, 0] rfl)
      case k53 =>
        intro x8_5 d8 hf H locs ls hH hl
        refine lv_iconst (v := (0 : Int32)) hx hb dX9_read_53 (by decide) ?_
        refine lv_istore (lv' := [(5, .int (0 : Int32)), (0, .ref (Γ.2.2.1 + p0)), (1, .int v1), (2, .int v2), (3, .int v3), (4, .int v4)]) hx hb dX9_read_54 hl (by decide) rfl (fun ls hl => ?_)
        refine lv_iconst (v := (0 : Int32)) hx hb dX9_read_56 (by decide) ?_
        refine lv_istore (lv' := [(6, .int (0 : Int32)), (5, .int (0 : Int32)), (0, .ref (Γ.2.2.1 + p0)), (1, .int v1), (2, .int v2), (3, .int v3), (4, .int v4)]) hx hb dX9_read_57 hl (by decide) rfl (fun ls hl => ?_)
        refine lv_iconst (v := (0 : Int32)) hx hb dX9_read_59 (by decide) ?_
        refine lv_istore (lv' := [(7, .int (0 : Int32)), (6, .int (0 : Int32)), (5, .int (0 : Int32)), (0, .ref (Γ.2.2.1 + p0)), (1, .int v1), (2, .int v2), (3, .int v3), (4, .int v4)]) hx hb dX9_read_60 hl (by decide) rfl (fun ls hl => ?_)
        refine w_X9_read_L62 C0 hr hlocks p0 v1 v2 v3 v4 FU (0 : Int32) (0 : Int32) (0 : Int32) d8 hf _ _ _ hH (lv_sub hl [3, 4, 5, 6, 7, 2, 1, 0] rfl)
    · replace hf := it hf c2
      refine lv_iconst (v := (-1 : Int32)) hx hb dX9_read_21 (by decide) ?_
      obtain rfl := Option.some.inj hf
      exact r_iret (d' := d) C0 hr hlocks hH rfl dX9_read_22
theorem dX9_torn_0 : decode cX9_torn 0 = .ok (.aload_n 0, 1) := by decide +kernel
theorem dX9_torn_1 : decode cX9_torn 1 = .ok (.getfield 288, 3) := by decide +kernel
theorem dX9_torn_4 : decode cX9_torn 4 = .ok (.ireturn, 1) := by decide +kernel
def f_X9_torn (Λ : List Ly) (d : Dt) (p0 : Nat) : Option Int32 := if clsAt Λ p0 = some 9 then (some (d.1 p0 23)) else none
set_option maxHeartbeats 4000000 in
set_option maxRecDepth 100000 in
theorem c_X9_torn (Γ : Cx) (l : Launch) (Λ : List Ly) (d : Dt) (p0 : Nat) (z : Int32) (hf : f_X9_torn Λ d p0 = some z) : Cn Γ l yX9_torn cX9_torn 1 (some FieldType.int) 0 0 [.ref (Γ.2.2.1 + p0)] Λ d (some (.int z)) d := by
  refine Cn.of (own := "SeasonBoundModel") (by decide +kernel) rfl (Nat.le_of_ble_eq_true rfl) ?_
  intro p e s m below meth c C0 hr hlocks hH ls hl
  have hl : lv_has ls 1 [(0, .ref (Γ.2.2.1 + p0))] := hl
  obtain ⟨hx, hb, hml, hown, hts, hK⟩ := id C0
  unfold f_X9_torn at hf
  refine lv_aload_n hx hb dX9_torn_0 rfl (lv_at hl 0 rfl) ?_
  obtain ⟨g1, hf⟩ := gd hf
  refine r_geti C0 hH fl_X9_288 g1 rfl dX9_torn_1 ?_
  obtain rfl := Option.some.inj hf
  exact r_iret (d' := d) C0 hr hlocks hH rfl dX9_torn_4
