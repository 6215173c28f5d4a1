theorem dX9_home_0 : decode cX9_home 0 = .ok (.aload_n 0, 1) := by decide +kernel
theorem dX9_home_1 : decode cX9_home 1 = .ok (.iload_n 1, 1) := by decide +kernel
theorem dX9_home_2 : decode cX9_home 2 = .ok (.invokevirtual 180, 3) := by decide +kernel
theorem dX9_home_5 : decode cX9_home 5 = .ok (.ifCond .ne 5, 3) := by decide +kernel
theorem dX9_home_8 : decode cX9_home 8 = .ok (.iconst (-1), 1) := by decide +kernel
theorem dX9_home_9 : decode cX9_home 9 = .ok (.ireturn, 1) := by decide +kernel
theorem dX9_home_10 : decode cX9_home 10 = .ok (.aload_n 0, 1) := by decide +kernel
theorem dX9_home_11 : decode cX9_home 11 = .ok (.invokevirtual 177, 3) := by decide +kernel
theorem dX9_home_14 : decode cX9_home 14 = .ok (.iconst 0, 1) := by decide +kernel
theorem dX9_home_15 : decode cX9_home 15 = .ok (.istore_n 2, 1) := by decide +kernel
theorem dX9_home_16 : decode cX9_home 16 = .ok (.iload_n 2, 1) := by decide +kernel
theorem dX9_home_17 : decode cX9_home 17 = .ok (.bipush 60, 2) := by decide +kernel
theorem dX9_home_19 : decode cX9_home 19 = .ok (.if_icmp .gt 24, 3) := by decide +kernel
theorem dX9_home_22 : decode cX9_home 22 = .ok (.aload_n 0, 1) := by decide +kernel
theorem dX9_home_23 : decode cX9_home 23 = .ok (.iload_n 1, 1) := by decide +kernel
theorem dX9_home_24 : decode cX9_home 24 = .ok (.invokevirtual 139, 3) := by decide +kernel
theorem dX9_home_27 : decode cX9_home 27 = .ok (.ifCond .eq 5, 3) := by decide +kernel
theorem dX9_home_30 : decode cX9_home 30 = .ok (.iload_n 2, 1) := by decide +kernel
theorem dX9_home_31 : decode cX9_home 31 = .ok (.ireturn, 1) := by decide +kernel
theorem dX9_home_32 : decode cX9_home 32 = .ok (.aload_n 0, 1) := by decide +kernel
theorem dX9_home_33 : decode cX9_home 33 = .ok (.iconst 0, 1) := by decide +kernel
theorem dX9_home_34 : decode cX9_home 34 = .ok (.invokevirtual 167, 3) := by decide +kernel
theorem dX9_home_37 : decode cX9_home 37 = .ok (.iinc 2 1, 3) := by decide +kernel
theorem dX9_home_40 : decode cX9_home 40 = .ok (.goto (-24), 3) := by decide +kernel
theorem dX9_home_43 : decode cX9_home 43 = .ok (.bipush (-4), 2) := by decide +kernel
theorem dX9_home_45 : decode cX9_home 45 = .ok (.ireturn, 1) := by decide +kernel
def f_X9_home_L16 (Λ : List Ly) (p0 : Nat) (v1 : Int32) : Nat → Int32 → Dt → Option (Int32 × Dt)
  | 0, _, _ => none
  | n + 1, v2, d => if (60 : Int32) < v2 then (some ((-4 : Int32), d)) else (if clsAt Λ p0 = some 9 then (Option.bind (f_X9_isFree Λ d p0 v1) fun z7 => if z7 = 0 then (Option.bind (f_X9_weekGoes Λ d p0 (0 : Int32)) fun z9 => f_X9_home_L16 Λ p0 v1 n (v2 + (1 : Int32)) z9) else (some (v2, d))) else none)
def f_X9_home (Λ : List Ly) (d : Dt) (p0 : Nat) (v1 : Int32) : Option (Int32 × Dt) := if clsAt Λ p0 = some 9 then (Option.bind (f_X9_isChild Λ d p0 v1) fun z2 => if z2 = 0 then (some ((-1 : Int32), d)) else (Option.bind (f_X9_starts Λ d p0) fun z4 => f_X9_home_L16 Λ p0 v1 FU (0 : Int32) z4)) else none
set_option maxHeartbeats 4000000 in
set_option maxRecDepth 100000 in
theorem w_X9_home_L16 {p : Program} {l : Launch} {e : Env} {s : State} {m : MethodId} {args : Array Value} {below : List Frame} {meth : Method} {c : Code} {Γ : Cx} {Λ : List Ly} {z : Int32 × Dt} (C0 : Ct Γ p s m args c cX9_home 3 "SeasonBoundModel") (hr : meth.sig.returnType = (some FieldType.int)) (hlocks : meth.locks = false) (p0 : Nat) (v1 : Int32) :
    ∀ (n : Nat) (v2 : Int32) (d : Dt), f_X9_home_L16 Λ p0 v1 n v2 d = some z → ∀ (H : Heap) (locs : List Loc) (ls : Array Slot), Hs Γ Λ d s H locs → lv_has ls 3 [(0, .ref (ad Γ.2.2.1 p0)), (1, .int v1), (2, .int v2)] → W p l e { frames := 5, cells := 0, slots := 0, locals := 109 } s m args below meth c H locs 0 0 (MQ below (QN Γ Λ z.2 (some (.int z.1))) args s 0 0 (AP Γ)) (F0 m 16 ls []) := by
  obtain ⟨hx, hb, hml, hown, hts, hK⟩ := id C0
  intro n
  induction n with
  | zero =>
    intro v2 d hf
    cases hf
  | succ n ih =>
    intro v2 d hf H locs ls hH hl
    unfold f_X9_home_L16 at hf
    refine lv_iload_n hx hb dX9_home_16 rfl (lv_at hl 2 rfl) ?_
    refine lv_bipush (v := (60 : Int32)) hx hb dX9_home_17 (by decide) ?_
    refine lv_icmp_gt (tgt := 43) hx hb dX9_home_19 (by decide) (fun c5 => ?_) (fun c5 => ?_)
    · replace hf := it hf c5
      refine lv_bipush (v := (-4 : Int32)) hx hb dX9_home_43 (by decide) ?_
      obtain rfl := Option.some.inj hf
      exact r_iret (d' := d) C0 hr hlocks hH rfl dX9_home_45
    · replace hf := ie hf c5
      refine lv_aload_n hx hb dX9_home_22 rfl (lv_at hl 0 rfl) ?_
      refine lv_iload_n hx hb dX9_home_23 rfl (lv_at hl 1 rfl) ?_
      obtain ⟨g6, hf⟩ := gd hf
      obtain ⟨z7, h7, hf⟩ := ob hf
      refine r_callVi (rest := []) C0 hH (c_X9_isFree Γ l Λ d p0 v1 z7 h7) cv_X9_139 g6 (by decide) rfl hl.1 rfl (Nat.le_of_ble_eq_true rfl) dX9_home_24 (by decide) (fun H locs hH => ?_)
      refine lv_if_eq (tgt := 32) hx hb dX9_home_27 (by decide) (fun c8 => ?_) (fun c8 => ?_)
      · replace hf := it hf c8
        refine lv_aload_n hx hb dX9_home_32 rfl (lv_at hl 0 rfl) ?_
        refine lv_iconst (v := (0 : Int32)) hx hb dX9_home_33 (by decide) ?_
        obtain ⟨z9, h9, hf⟩ := ob hf
        refine r_callVv (rest := []) C0 hH (c_X9_weekGoes Γ l Λ d p0 (0 : Int32) z9 h9) cv_X9_167 g6 (by decide) rfl hl.1 rfl (Nat.le_of_ble_eq_true rfl) dX9_home_34 (by decide) (fun H locs hH => ?_)
        refine lv_iinc (v := (v2 + (1 : Int32))) (lv' := [(2, .int (v2 + (1 : Int32))), (0, .ref (ad Γ.2.2.1 p0)), (1, .int v1)]) hx hb dX9_home_37 hl (k := 2) rfl (congrArg (fun w => v2 + w) (by decide)) (by decide) rfl (fun ls hl => ?_)
        refine lv_goto (tgt := 16) hx hb dX9_home_40 (by decide) ?_
        exact ih (v2 + (1 : Int32)) z9 hf _ _ _ hH (lv_sub hl [1, 2, 0] rfl)
      · replace hf := ie hf c8
        refine lv_iload_n hx hb dX9_home_30 rfl (lv_at hl 2 rfl) ?_
        obtain rfl := Option.some.inj hf
        exact r_iret (d' := d) C0 hr hlocks hH rfl dX9_home_31
set_option maxHeartbeats 4000000 in
set_option maxRecDepth 100000 in
theorem c_X9_home (Γ : Cx) (l : Launch) (Λ : List Ly) (d : Dt) (p0 : Nat) (v1 : Int32) (z : Int32 × Dt) (hf : f_X9_home Λ d p0 v1 = some z) : Cn Γ l yX9_home cX9_home 3 (some FieldType.int) 5 109 [.ref (ad Γ.2.2.1 p0), .int v1] Λ d (some (.int z.1)) z.2 := by
  refine Cn.of (own := "SeasonBoundModel") (by decide +kernel) rfl (Nat.le_of_ble_eq_true rfl) ?_
  intro p e s m below meth c C0 hr hlocks hH ls hl
  have hl : lv_has ls 3 [(0, .ref (ad Γ.2.2.1 p0)), (1, .int v1)] := hl
  obtain ⟨hx, hb, hml, hown, hts, hK⟩ := id C0
  unfold f_X9_home at hf
  refine lv_aload_n hx hb dX9_home_0 rfl (lv_at hl 0 rfl) ?_
  refine lv_iload_n hx hb dX9_home_1 rfl (lv_at hl 1 rfl) ?_
  obtain ⟨g1, hf⟩ := gd hf
  obtain ⟨z2, h2, hf⟩ := ob hf
  refine r_callVi (rest := []) C0 hH (c_X9_isChild Γ l Λ d p0 v1 z2 h2) cv_X9_180 g1 (by decide) rfl hl.1 rfl (Nat.le_of_ble_eq_true rfl) dX9_home_2 (by decide) (fun H locs hH => ?_)
  refine lv_if_ne (tgt := 10) hx hb dX9_home_5 (by decide) (fun c3 => ?_) (fun c3 => ?_)
  · replace hf := ie hf c3
    refine lv_aload_n hx hb dX9_home_10 rfl (lv_at hl 0 rfl) ?_
    obtain ⟨z4, h4, hf⟩ := ob hf
    refine r_callVv (rest := []) C0 hH (c_X9_starts Γ l Λ d p0 z4 h4) cv_X9_177 g1 (by decide) rfl hl.1 rfl (Nat.le_of_ble_eq_true rfl) dX9_home_11 (by decide) (fun H locs hH => ?_)
    refine lv_iconst (v := (0 : Int32)) hx hb dX9_home_14 (by decide) ?_
    refine lv_istore_n (lv' := [(2, .int (0 : Int32)), (0, .ref (ad Γ.2.2.1 p0)), (1, .int v1)]) hx hb dX9_home_15 rfl hl (by decide) rfl (fun ls hl => ?_)
    refine w_X9_home_L16 C0 hr hlocks p0 v1 FU (0 : Int32) z4 hf _ _ _ hH (lv_sub hl [1, 2, 0] rfl)
  · replace hf := it hf c3
    refine lv_iconst (v := (-1 : Int32)) hx hb dX9_home_8 (by decide) ?_
    obtain rfl := Option.some.inj hf
    exact r_iret (d' := d) C0 hr hlocks hH rfl dX9_home_9
theorem dX9_meet_0 : decode cX9_meet 0 = .ok (.aload_n 0, 1) := by decide +kernel
theorem dX9_meet_1 : decode cX9_meet 1 = .ok (.iload_n 1, 1) := by decide +kernel
theorem dX9_meet_2 : decode cX9_meet 2 = .ok (.invokevirtual 180, 3) := by decide +kernel
theorem dX9_meet_5 : decode cX9_meet 5 = .ok (.ifCond .eq 16, 3) := by decide +kernel
theorem dX9_meet_8 : decode cX9_meet 8 = .ok (.aload_n 0, 1) := by decide +kernel
theorem dX9_meet_9 : decode cX9_meet 9 = .ok (.iload_n 2, 1) := by decide +kernel
theorem dX9_meet_10 : decode cX9_meet 10 = .ok (.invokevirtual 180, 3) := by decide +kernel
theorem dX9_meet_13 : decode cX9_meet 13 = .ok (.ifCond .eq 8, 3) := by decide +kernel
theorem dX9_meet_16 : decode cX9_meet 16 = .ok (.iload_n 1, 1) := by decide +kernel
theorem dX9_meet_17 : decode cX9_meet 17 = .ok (.iload_n 2, 1) := by decide +kernel
theorem dX9_meet_18 : decode cX9_meet 18 = .ok (.if_icmp .ne 5, 3) := by decide +kernel
theorem dX9_meet_21 : decode cX9_meet 21 = .ok (.iconst (-1), 1) := by decide +kernel
theorem dX9_meet_22 : decode cX9_meet 22 = .ok (.ireturn, 1) := by decide +kernel
theorem dX9_meet_23 : decode cX9_meet 23 = .ok (.aload_n 0, 1) := by decide +kernel
theorem dX9_meet_24 : decode cX9_meet 24 = .ok (.invokevirtual 177, 3) := by decide +kernel
theorem dX9_meet_27 : decode cX9_meet 27 = .ok (.iconst 0, 1) := by decide +kernel
theorem dX9_meet_28 : decode cX9_meet 28 = .ok (.istore_n 3, 1) := by decide +kernel
theorem dX9_meet_29 : decode cX9_meet 29 = .ok (.iload_n 3, 1) := by decide +kernel
theorem dX9_meet_30 : decode cX9_meet 30 = .ok (.bipush 60, 2) := by decide +kernel
theorem dX9_meet_32 : decode cX9_meet 32 = .ok (.if_icmp .gt 32, 3) := by decide +kernel
theorem dX9_meet_35 : decode cX9_meet 35 = .ok (.aload_n 0, 1) := by decide +kernel
theorem dX9_meet_36 : decode cX9_meet 36 = .ok (.iload_n 1, 1) := by decide +kernel
theorem dX9_meet_37 : decode cX9_meet 37 = .ok (.invokevirtual 143, 3) := by decide +kernel
theorem dX9_meet_40 : decode cX9_meet 40 = .ok (.ifCond .eq 13, 3) := by decide +kernel
theorem dX9_meet_43 : decode cX9_meet 43 = .ok (.aload_n 0, 1) := by decide +kernel
theorem dX9_meet_44 : decode cX9_meet 44 = .ok (.iload_n 2, 1) := by decide +kernel
theorem dX9_meet_45 : decode cX9_meet 45 = .ok (.invokevirtual 143, 3) := by decide +kernel
theorem dX9_meet_48 : decode cX9_meet 48 = .ok (.ifCond .eq 5, 3) := by decide +kernel
theorem dX9_meet_51 : decode cX9_meet 51 = .ok (.iload_n 3, 1) := by decide +kernel
theorem dX9_meet_52 : decode cX9_meet 52 = .ok (.ireturn, 1) := by decide +kernel
theorem dX9_meet_53 : decode cX9_meet 53 = .ok (.aload_n 0, 1) := by decide +kernel
theorem dX9_meet_54 : decode cX9_meet 54 = .ok (.iconst 0, 1) := by decide +kernel
theorem dX9_meet_55 : decode cX9_meet 55 = .ok (.invokevirtual 167, 3) := by decide +kernel
theorem dX9_meet_58 : decode cX9_meet 58 = .ok (.iinc 3 1, 3) := by decide +kernel
theorem dX9_meet_61 : decode cX9_meet 61 = .ok (.goto (-32), 3) := by decide +kernel
theorem dX9_meet_64 : decode cX9_meet 64 = .ok (.bipush (-4), 2) := by decide +kernel
theorem dX9_meet_66 : decode cX9_meet 66 = .ok (.ireturn, 1) := by decide +kernel
def f_X9_meet_L29 (Λ : List Ly) (p0 : Nat) (v1 : Int32) (v2 : Int32) : Nat → Int32 → Dt → Option (Int32 × Dt)
  | 0, _, _ => none
  | n + 1, v3, d => if (60 : Int32) < v3 then (some ((-4 : Int32), d)) else (if clsAt Λ p0 = some 9 then (Option.bind (f_X9_lives Λ d p0 v1) fun z10 => if z10 = 0 then (Option.bind (f_X9_weekGoes Λ d p0 (0 : Int32)) fun z12 => f_X9_meet_L29 Λ p0 v1 v2 n (v3 + (1 : Int32)) z12) else (Option.bind (f_X9_lives Λ d p0 v2) fun z13 => if z13 = 0 then (Option.bind (f_X9_weekGoes Λ d p0 (0 : Int32)) fun z15 => f_X9_meet_L29 Λ p0 v1 v2 n (v3 + (1 : Int32)) z15) else (some (v3, d)))) else none)
def f_X9_meet (Λ : List Ly) (d : Dt) (p0 : Nat) (v1 : Int32) (v2 : Int32) : Option (Int32 × Dt) := if clsAt Λ p0 = some 9 then (Option.bind (f_X9_isChild Λ d p0 v1) fun z2 => if z2 = 0 then (some ((-1 : Int32), d)) else (Option.bind (f_X9_isChild Λ d p0 v2) fun z4 => if z4 = 0 then (some ((-1 : Int32), d)) else (if v1 = v2 then (some ((-1 : Int32), d)) else (Option.bind (f_X9_starts Λ d p0) fun z7 => f_X9_meet_L29 Λ p0 v1 v2 FU (0 : Int32) z7)))) else none
set_option maxHeartbeats 4000000 in
set_option maxRecDepth 100000 in
theorem w_X9_meet_L29 {p : Program} {l : Launch} {e : Env} {s : State} {m : MethodId} {args : Array Value} {below : List Frame} {meth : Method} {c : Code} {Γ : Cx} {Λ : List Ly} {z : Int32 × Dt} (C0 : Ct Γ p s m args c cX9_meet 4 "SeasonBoundModel") (hr : meth.sig.returnType = (some FieldType.int)) (hlocks : meth.locks = false) (p0 : Nat) (v1 : Int32) (v2 : Int32) :
    ∀ (n : Nat) (v3 : Int32) (d : Dt), f_X9_meet_L29 Λ p0 v1 v2 n v3 d = some z → ∀ (H : Heap) (locs : List Loc) (ls : Array Slot), Hs Γ Λ d s H locs → lv_has ls 4 [(0, .ref (ad Γ.2.2.1 p0)), (1, .int v1), (2, .int v2), (3, .int v3)] → W p l e { frames := 5, cells := 0, slots := 0, locals := 109 } s m args below meth c H locs 0 0 (MQ below (QN Γ Λ z.2 (some (.int z.1))) args s 0 0 (AP Γ)) (F0 m 29 ls []) := by
  obtain ⟨hx, hb, hml, hown, hts, hK⟩ := id C0
  intro n
  induction n with
  | zero =>
    intro v3 d hf
    cases hf
  | succ n ih =>
    intro v3 d hf H locs ls hH hl
    unfold f_X9_meet_L29 at hf
    refine lv_iload_n hx hb dX9_meet_29 rfl (lv_at hl 3 rfl) ?_
    refine lv_bipush (v := (60 : Int32)) hx hb dX9_meet_30 (by decide) ?_
    refine lv_icmp_gt (tgt := 64) hx hb dX9_meet_32 (by decide) (fun c8 => ?_) (fun c8 => ?_)
    · replace hf := it hf c8
      refine lv_bipush (v := (-4 : Int32)) hx hb dX9_meet_64 (by decide) ?_
      obtain rfl := Option.some.inj hf
      exact r_iret (d' := d) C0 hr hlocks hH rfl dX9_meet_66
    · replace hf := ie hf c8
      refine lv_aload_n hx hb dX9_meet_35 rfl (lv_at hl 0 rfl) ?_
      refine lv_iload_n hx hb dX9_meet_36 rfl (lv_at hl 1 rfl) ?_
      obtain ⟨g9, hf⟩ := gd hf
      obtain ⟨z10, h10, hf⟩ := ob hf
      refine r_callVi (rest := []) C0 hH (c_X9_lives Γ l Λ d p0 v1 z10 h10) cv_X9_143 g9 (by decide) rfl hl.1 rfl (Nat.le_of_ble_eq_true rfl) dX9_meet_37 (by decide) (fun H locs hH => ?_)
      refine lv_if_eq (tgt := 53) hx hb dX9_meet_40 (by decide) (fun c11 => ?_) (fun c11 => ?_)
      · replace hf := it hf c11
        refine lv_aload_n hx hb dX9_meet_53 rfl (lv_at hl 0 rfl) ?_
        refine lv_iconst (v := (0 : Int32)) hx hb dX9_meet_54 (by decide) ?_
        obtain ⟨z12, h12, hf⟩ := ob hf
        refine r_callVv (rest := []) C0 hH (c_X9_weekGoes Γ l Λ d p0 (0 : Int32) z12 h12) cv_X9_167 g9 (by decide) rfl hl.1 rfl (Nat.le_of_ble_eq_true rfl) dX9_meet_55 (by decide) (fun H locs hH => ?_)
        refine lv_iinc (v := (v3 + (1 : Int32))) (lv' := [(3, .int (v3 + (1 : Int32))), (0, .ref (ad Γ.2.2.1 p0)), (1, .int v1), (2, .int v2)]) hx hb dX9_meet_58 hl (k := 3) rfl (congrArg (fun w => v3 + w) (by decide)) (by decide) rfl (fun ls hl => ?_)
        refine lv_goto (tgt := 29) hx hb dX9_meet_61 (by decide) ?_
        exact ih (v3 + (1 : Int32)) z12 hf _ _ _ hH (lv_sub hl [1, 2, 3, 0] rfl)
      · replace hf := ie hf c11
        refine lv_aload_n hx hb dX9_meet_43 rfl (lv_at hl 0 rfl) ?_
        refine lv_iload_n hx hb dX9_meet_44 rfl (lv_at hl 2 rfl) ?_
        obtain ⟨z13, h13, hf⟩ := ob hf
        refine r_callVi (rest := []) C0 hH (c_X9_lives Γ l Λ d p0 v2 z13 h13) cv_X9_143 g9 (by decide) rfl hl.1 rfl (Nat.le_of_ble_eq_true rfl) dX9_meet_45 (by decide) (fun H locs hH => ?_)
        refine lv_if_eq (tgt := 53) hx hb dX9_meet_48 (by decide) (fun c14 => ?_) (fun c14 => ?_)
        · replace hf := it hf c14
          refine lv_aload_n hx hb dX9_meet_53 rfl (lv_at hl 0 rfl) ?_
          refine lv_iconst (v := (0 : Int32)) hx hb dX9_meet_54 (by decide) ?_
          obtain ⟨z15, h15, hf⟩ := ob hf
          refine r_callVv (rest := []) C0 hH (c_X9_weekGoes Γ l Λ d p0 (0 : Int32) z15 h15) cv_X9_167 g9 (by decide) rfl hl.1 rfl (Nat.le_of_ble_eq_true rfl) dX9_meet_55 (by decide) (fun H locs hH => ?_)
          refine lv_iinc (v := (v3 + (1 : Int32))) (lv' := [(3, .int (v3 + (1 : Int32))), (0, .ref (ad Γ.2.2.1 p0)), (1, .int v1), (2, .int v2)]) hx hb dX9_meet_58 hl (k := 3) rfl (congrArg (fun w => v3 + w) (by decide)) (by decide) rfl (fun ls hl => ?_)
          refine lv_goto (tgt := 29) hx hb dX9_meet_61 (by decide) ?_
          exact ih (v3 + (1 : Int32)) z15 hf _ _ _ hH (lv_sub hl [1, 2, 3, 0] rfl)
        · replace hf := ie hf c14
          refine lv_iload_n hx hb dX9_meet_51 rfl (lv_at hl 3 rfl) ?_
          obtain rfl := Option.some.inj hf
          exact r_iret (d' := d) C0 hr hlocks hH rfl dX9_meet_52
set_option maxHeartbeats 4000000 in
set_option maxRecDepth 100000 in
theorem c_X9_meet (Γ : Cx) (l : Launch) (Λ : List Ly) (d : Dt) (p0 : Nat) (v1 : Int32) (v2 : Int32) (z : Int32 × Dt) (hf : f_X9_meet Λ d p0 v1 v2 = some z) : Cn Γ l yX9_meet cX9_meet 4 (some FieldType.int) 5 109 [.ref (ad Γ.2.2.1 p0), .int v1, .int v2] Λ d (some (.int z.1)) z.2 := by
  refine Cn.of (own := "SeasonBoundModel") (by decide +kernel) rfl (Nat.le_of_ble_eq_true rfl) ?_
  intro p e s m below meth c C0 hr hlocks hH ls hl
  have hl : lv_has ls 4 [(0, .ref (ad Γ.2.2.1 p0)), (1, .int v1), (2, .int v2)] := hl
  obtain ⟨hx, hb, hml, hown, hts, hK⟩ := id C0
  unfold f_X9_meet at hf
  refine lv_aload_n hx hb dX9_meet_0 rfl (lv_at hl 0 rfl) ?_
  refine lv_iload_n hx hb dX9_meet_1 rfl (lv_at hl 1 rfl) ?_
  obtain ⟨g1, hf⟩ := gd hf
  obtain ⟨z2, h2, hf⟩ := ob hf
  refine r_callVi (rest := []) C0 hH (c_X9_isChild Γ l Λ d p0 v1 z2 h2) cv_X9_180 g1 (by decide) rfl hl.1 rfl (Nat.le_of_ble_eq_true rfl) dX9_meet_2 (by decide) (fun H locs hH => ?_)
  refine lv_if_eq (tgt := 21) hx hb dX9_meet_5 (by decide) (fun c3 => ?_) (fun c3 => ?_)
  · replace hf := it hf c3
    refine lv_iconst (v := (-1 : Int32)) hx hb dX9_meet_21 (by decide) ?_
    obtain rfl := Option.some.inj hf
    exact r_iret (d' := d) C0 hr hlocks hH rfl dX9_meet_22
  · replace hf := ie hf c3
    refine lv_aload_n hx hb dX9_meet_8 rfl (lv_at hl 0 rfl) ?_
    refine lv_iload_n hx hb dX9_meet_9 rfl (lv_at hl 2 rfl) ?_
    obtain ⟨z4, h4, hf⟩ := ob hf
    refine r_callVi (rest := []) C0 hH (c_X9_isChild Γ l Λ d p0 v2 z4 h4) cv_X9_180 g1 (by decide) rfl hl.1 rfl (Nat.le_of_ble_eq_true rfl) dX9_meet_10 (by decide) (fun H locs hH => ?_)
    refine lv_if_eq (tgt := 21) hx hb dX9_meet_13 (by decide) (fun c5 => ?_) (fun c5 => ?_)
    · replace hf := it hf c5
      refine lv_iconst (v := (-1 : Int32)) hx hb dX9_meet_21 (by decide) ?_
      obtain rfl := Option.some.inj hf
      exact r_iret (d' := d) C0 hr hlocks hH rfl dX9_meet_22
    · replace hf := ie hf c5
      refine lv_iload_n hx hb dX9_meet_16 rfl (lv_at hl 1 rfl) ?_
      refine lv_iload_n hx hb dX9_meet_17 rfl (lv_at hl 2 rfl) ?_
      refine lv_icmp_ne (tgt := 23) hx hb dX9_meet_18 (by decide) (fun c6 => ?_) (fun c6 => ?_)
      · replace hf := ie hf c6
        refine lv_aload_n hx hb dX9_meet_23 rfl (lv_at hl 0 rfl) ?_
        obtain ⟨z7, h7, hf⟩ := ob hf
        refine r_callVv (rest := []) C0 hH (c_X9_starts Γ l Λ d p0 z7 h7) cv_X9_177 g1 (by decide) rfl hl.1 rfl (Nat.le_of_ble_eq_true rfl) dX9_meet_24 (by decide) (fun H locs hH => ?_)
        refine lv_iconst (v := (0 : Int32)) hx hb dX9_meet_27 (by decide) ?_
        refine lv_istore_n (lv' := [(3, .int (0 : Int32)), (0, .ref (ad Γ.2.2.1 p0)), (1, .int v1), (2, .int v2)]) hx hb dX9_meet_28 rfl hl (by decide) rfl (fun ls hl => ?_)
        refine w_X9_meet_L29 C0 hr hlocks p0 v1 v2 FU (0 : Int32) z7 hf _ _ _ hH (lv_sub hl [1, 2, 3, 0] rfl)
      · replace hf := it hf c6
        refine lv_iconst (v := (-1 : Int32)) hx hb dX9_meet_21 (by decide) ?_
        obtain rfl := Option.some.inj hf
        exact r_iret (d' := d) C0 hr hlocks hH rfl dX9_meet_22
theorem dX9_startsJudging_0 : decode cX9_startsJudging 0 = .ok (.aload_n 0, 1) := by decide +kernel
theorem dX9_startsJudging_1 : decode cX9_startsJudging 1 = .ok (.bipush (-4), 2) := by decide +kernel
theorem dX9_startsJudging_3 : decode cX9_startsJudging 3 = .ok (.putfield 222, 3) := by decide +kernel
theorem dX9_startsJudging_6 : decode cX9_startsJudging 6 = .ok (.aload_n 0, 1) := by decide +kernel
theorem dX9_startsJudging_7 : decode cX9_startsJudging 7 = .ok (.iload_n 1, 1) := by decide +kernel
theorem dX9_startsJudging_8 : decode cX9_startsJudging 8 = .ok (.putfield 225, 3) := by decide +kernel
theorem dX9_startsJudging_11 : decode cX9_startsJudging 11 = .ok (.return_, 1) := by decide +kernel
def f_X9_startsJudging (Λ : List Ly) (d : Dt) (p0 : Nat) (v1 : Int32) : Option Dt := if clsAt Λ p0 = some 9 then (some (pI (pI d p0 13 (-4 : Int32)) p0 14 v1)) else none
set_option maxHeartbeats 4000000 in
set_option maxRecDepth 100000 in
theorem c_X9_startsJudging (Γ : Cx) (l : Launch) (Λ : List Ly) (d : Dt) (p0 : Nat) (v1 : Int32) (z : Dt) (hf : f_X9_startsJudging Λ d p0 v1 = some z) : Cn Γ l yX9_startsJudging cX9_startsJudging 2 none 0 0 [.ref (ad Γ.2.2.1 p0), .int v1] Λ d none z := by
  refine Cn.of (own := "SeasonBoundModel") (by decide +kernel) rfl (Nat.le_of_ble_eq_true rfl) ?_
  intro p e s m below meth c C0 hr hlocks hH ls hl
  have hl : lv_has ls 2 [(0, .ref (ad Γ.2.2.1 p0)), (1, .int v1)] := hl
  obtain ⟨hx, hb, hml, hown, hts, hK⟩ := id C0
  unfold f_X9_startsJudging at hf
  refine lv_aload_n hx hb dX9_startsJudging_0 rfl (lv_at hl 0 rfl) ?_
  refine lv_bipush (v := (-4 : Int32)) hx hb dX9_startsJudging_1 (by decide) ?_
  obtain ⟨g1, hf⟩ := gd hf
  refine r_puti C0 hH fw_X9_222 g1 rfl dX9_startsJudging_3 (fun H locs hH => ?_)
  refine lv_aload_n hx hb dX9_startsJudging_6 rfl (lv_at hl 0 rfl) ?_
  refine lv_iload_n hx hb dX9_startsJudging_7 rfl (lv_at hl 1 rfl) ?_
  refine r_puti C0 hH fw_X9_225 g1 rfl dX9_startsJudging_8 (fun H locs hH => ?_)
  obtain rfl := Option.some.inj hf
  exact r_vret C0 hr hlocks hH dX9_startsJudging_11
theorem dX9_judges_0 : decode cX9_judges 0 = .ok (.aload_n 0, 1) := by decide +kernel
theorem dX9_judges_1 : decode cX9_judges 1 = .ok (.iload_n 2, 1) := by decide +kernel
theorem dX9_judges_2 : decode cX9_judges 2 = .ok (.aload_n 0, 1) := by decide +kernel
theorem dX9_judges_3 : decode cX9_judges 3 = .ok (.getfield 225, 3) := by decide +kernel
theorem dX9_judges_6 : decode cX9_judges 6 = .ok (.if_icmp .le 7, 3) := by decide +kernel
theorem dX9_judges_9 : decode cX9_judges 9 = .ok (.iload_n 1, 1) := by decide +kernel
theorem dX9_judges_10 : decode cX9_judges 10 = .ok (.goto 7, 3) := by decide +kernel
theorem dX9_judges_13 : decode cX9_judges 13 = .ok (.aload_n 0, 1) := by decide +kernel
theorem dX9_judges_14 : decode cX9_judges 14 = .ok (.getfield 222, 3) := by decide +kernel
theorem dX9_judges_17 : decode cX9_judges 17 = .ok (.putfield 222, 3) := by decide +kernel
theorem dX9_judges_20 : decode cX9_judges 20 = .ok (.aload_n 0, 1) := by decide +kernel
theorem dX9_judges_21 : decode cX9_judges 21 = .ok (.iload_n 2, 1) := by decide +kernel
theorem dX9_judges_22 : decode cX9_judges 22 = .ok (.aload_n 0, 1) := by decide +kernel
theorem dX9_judges_23 : decode cX9_judges 23 = .ok (.getfield 225, 3) := by decide +kernel
theorem dX9_judges_26 : decode cX9_judges 26 = .ok (.if_icmp .le 7, 3) := by decide +kernel
theorem dX9_judges_29 : decode cX9_judges 29 = .ok (.iload_n 2, 1) := by decide +kernel
theorem dX9_judges_30 : decode cX9_judges 30 = .ok (.goto 7, 3) := by decide +kernel
theorem dX9_judges_33 : decode cX9_judges 33 = .ok (.aload_n 0, 1) := by decide +kernel
theorem dX9_judges_34 : decode cX9_judges 34 = .ok (.getfield 225, 3) := by decide +kernel
theorem dX9_judges_37 : decode cX9_judges 37 = .ok (.putfield 225, 3) := by decide +kernel
theorem dX9_judges_40 : decode cX9_judges 40 = .ok (.return_, 1) := by decide +kernel
def f_X9_judges (Λ : List Ly) (d : Dt) (p0 : Nat) (v1 : Int32) (v2 : Int32) : Option Dt := if clsAt Λ p0 = some 9 then (if v2 ≤ (d.1 p0 14) then (if v2 ≤ ((pI d p0 13 (d.1 p0 13)).1 p0 14) then (some (pI (pI d p0 13 (d.1 p0 13)) p0 14 ((pI d p0 13 (d.1 p0 13)).1 p0 14))) else (some (pI (pI d p0 13 (d.1 p0 13)) p0 14 v2))) else (if v2 ≤ ((pI d p0 13 v1).1 p0 14) then (some (pI (pI d p0 13 v1) p0 14 ((pI d p0 13 v1).1 p0 14))) else (some (pI (pI d p0 13 v1) p0 14 v2)))) else none
set_option maxHeartbeats 4000000 in
set_option maxRecDepth 100000 in
theorem c_X9_judges (Γ : Cx) (l : Launch) (Λ : List Ly) (d : Dt) (p0 : Nat) (v1 : Int32) (v2 : Int32) (z : Dt) (hf : f_X9_judges Λ d p0 v1 v2 = some z) : Cn Γ l yX9_judges cX9_judges 3 none 0 0 [.ref (ad Γ.2.2.1 p0), .int v1, .int v2] Λ d none z := by
  refine Cn.of (own := "SeasonBoundModel") (by decide +kernel) rfl (Nat.le_of_ble_eq_true rfl) ?_
  intro p e s m below meth c C0 hr hlocks hH ls hl
  have hl : lv_has ls 3 [(0, .ref (ad Γ.2.2.1 p0)), (1, .int v1), (2, .int v2)] := hl
  obtain ⟨hx, hb, hml, hown, hts, hK⟩ := id C0
  unfold f_X9_judges at hf
  refine lv_aload_n hx hb dX9_judges_0 rfl (lv_at hl 0 rfl) ?_
  refine lv_iload_n hx hb dX9_judges_1 rfl (lv_at hl 2 rfl) ?_
  refine lv_aload_n hx hb dX9_judges_2 rfl (lv_at hl 0 rfl) ?_
  obtain ⟨g1, hf⟩ := gd hf
  refine r_geti C0 hH fl_X9_225 g1 rfl dX9_judges_3 ?_
  refine lv_icmp_le (tgt := 13) hx hb dX9_judges_6 (by decide) (fun c2 => ?_) (fun c2 => ?_)
  · replace hf := it hf c2
    refine lv_aload_n hx hb dX9_judges_13 rfl (lv_at hl 0 rfl) ?_
    refine r_geti C0 hH fl_X9_222 g1 rfl dX9_judges_14 ?_
    refine r_puti C0 hH fw_X9_222 g1 rfl dX9_judges_17 (fun H locs hH => ?_)
    refine lv_aload_n hx hb dX9_judges_20 rfl (lv_at hl 0 rfl) ?_
    refine lv_iload_n hx hb dX9_judges_21 rfl (lv_at hl 2 rfl) ?_
    refine lv_aload_n hx hb dX9_judges_22 rfl (lv_at hl 0 rfl) ?_
    refine r_geti C0 hH fl_X9_225 g1 rfl dX9_judges_23 ?_
    refine lv_icmp_le (tgt := 33) hx hb dX9_judges_26 (by decide) (fun c3 => ?_) (fun c3 => ?_)
    · replace hf := it hf c3
      refine lv_aload_n hx hb dX9_judges_33 rfl (lv_at hl 0 rfl) ?_
      refine r_geti C0 hH fl_X9_225 g1 rfl dX9_judges_34 ?_
      refine r_puti C0 hH fw_X9_225 g1 rfl dX9_judges_37 (fun H locs hH => ?_)
      obtain rfl := Option.some.inj hf
      exact r_vret C0 hr hlocks hH dX9_judges_40
    · replace hf := ie hf c3
      refine lv_iload_n hx hb dX9_judges_29 rfl (lv_at hl 2 rfl) ?_
      refine lv_goto (tgt := 37) hx hb dX9_judges_30 (by decide) ?_
      refine r_puti C0 hH fw_X9_225 g1 rfl dX9_judges_37 (fun H locs hH => ?_)
      obtain rfl := Option.some.inj hf
      exact r_vret C0 hr hlocks hH dX9_judges_40
  · replace hf := ie hf c2
    refine lv_iload_n hx hb dX9_judges_9 rfl (lv_at hl 1 rfl) ?_
    refine lv_goto (tgt := 17) hx hb dX9_judges_10 (by decide) ?_
    refine r_puti C0 hH fw_X9_222 g1 rfl dX9_judges_17 (fun H locs hH => ?_)
    refine lv_aload_n hx hb dX9_judges_20 rfl (lv_at hl 0 rfl) ?_
    refine lv_iload_n hx hb dX9_judges_21 rfl (lv_at hl 2 rfl) ?_
    refine lv_aload_n hx hb dX9_judges_22 rfl (lv_at hl 0 rfl) ?_
    refine r_geti C0 hH fl_X9_225 g1 rfl dX9_judges_23 ?_
    refine lv_icmp_le (tgt := 33) hx hb dX9_judges_26 (by decide) (fun c4 => ?_) (fun c4 => ?_)
    · replace hf := it hf c4
      refine lv_aload_n hx hb dX9_judges_33 rfl (lv_at hl 0 rfl) ?_
      refine r_geti C0 hH fl_X9_225 g1 rfl dX9_judges_34 ?_
      refine r_puti C0 hH fw_X9_225 g1 rfl dX9_judges_37 (fun H locs hH => ?_)
      obtain rfl := Option.some.inj hf
      exact r_vret C0 hr hlocks hH dX9_judges_40
    · replace hf := ie hf c4
      refine lv_iload_n hx hb dX9_judges_29 rfl (lv_at hl 2 rfl) ?_
      refine lv_goto (tgt := 37) hx hb dX9_judges_30 (by decide) ?_
      refine r_puti C0 hH fw_X9_225 g1 rfl dX9_judges_37 (fun H locs hH => ?_)
      obtain rfl := Option.some.inj hf
      exact r_vret C0 hr hlocks hH dX9_judges_40
theorem dX9_judged_0 : decode cX9_judged 0 = .ok (.aload_n 0, 1) := by decide +kernel
theorem dX9_judged_1 : decode cX9_judged 1 = .ok (.getfield 222, 3) := by decide +kernel
theorem dX9_judged_4 : decode cX9_judged 4 = .ok (.bipush (-4), 2) := by decide +kernel
theorem dX9_judged_6 : decode cX9_judged 6 = .ok (.if_icmp .ne 8, 3) := by decide +kernel
theorem dX9_judged_9 : decode cX9_judged 9 = .ok (.bipush (-4), 2) := by decide +kernel
theorem dX9_judged_11 : decode cX9_judged 11 = .ok (.goto 18, 3) := by decide +kernel
theorem dX9_judged_14 : decode cX9_judged 14 = .ok (.iload_n 1, 1) := by decide +kernel
theorem dX9_judged_15 : decode cX9_judged 15 = .ok (.ifCond .ne 10, 3) := by decide +kernel
theorem dX9_judged_18 : decode cX9_judged 18 = .ok (.aload_n 0, 1) := by decide +kernel
theorem dX9_judged_19 : decode cX9_judged 19 = .ok (.getfield 222, 3) := by decide +kernel
theorem dX9_judged_22 : decode cX9_judged 22 = .ok (.goto 7, 3) := by decide +kernel
theorem dX9_judged_25 : decode cX9_judged 25 = .ok (.aload_n 0, 1) := by decide +kernel
theorem dX9_judged_26 : decode cX9_judged 26 = .ok (.getfield 225, 3) := by decide +kernel
theorem dX9_judged_29 : decode cX9_judged 29 = .ok (.ireturn, 1) := by decide +kernel
def f_X9_judged (Λ : List Ly) (d : Dt) (p0 : Nat) (v1 : Int32) : Option Int32 := if clsAt Λ p0 = some 9 then (if (d.1 p0 13) = (-4 : Int32) then (some (-4 : Int32)) else (if v1 = 0 then (some (d.1 p0 13)) else (some (d.1 p0 14)))) else none
set_option maxHeartbeats 4000000 in
set_option maxRecDepth 100000 in
theorem c_X9_judged (Γ : Cx) (l : Launch) (Λ : List Ly) (d : Dt) (p0 : Nat) (v1 : Int32) (z : Int32) (hf : f_X9_judged Λ d p0 v1 = some z) : Cn Γ l yX9_judged cX9_judged 2 (some FieldType.int) 0 0 [.ref (ad Γ.2.2.1 p0), .int v1] Λ d (some (.int z)) d := by
  refine Cn.of (own := "SeasonBoundModel") (by decide +kernel) rfl (Nat.le_of_ble_eq_true rfl) ?_
  intro p e s m below meth c C0 hr hlocks hH ls hl
  have hl : lv_has ls 2 [(0, .ref (ad Γ.2.2.1 p0)), (1, .int v1)] := hl
  obtain ⟨hx, hb, hml, hown, hts, hK⟩ := id C0
  unfold f_X9_judged at hf
  refine lv_aload_n hx hb dX9_judged_0 rfl (lv_at hl 0 rfl) ?_
  obtain ⟨g1, hf⟩ := gd hf
  refine r_geti C0 hH fl_X9_222 g1 rfl dX9_judged_1 ?_
  refine lv_bipush (v := (-4 : Int32)) hx hb dX9_judged_4 (by decide) ?_
  refine lv_icmp_ne (tgt := 14) hx hb dX9_judged_6 (by decide) (fun c2 => ?_) (fun c2 => ?_)
  · replace hf := ie hf c2
    refine lv_iload_n hx hb dX9_judged_14 rfl (lv_at hl 1 rfl) ?_
    refine lv_if_ne (tgt := 25) hx hb dX9_judged_15 (by decide) (fun c3 => ?_) (fun c3 => ?_)
    · replace hf := ie hf c3
      refine lv_aload_n hx hb dX9_judged_25 rfl (lv_at hl 0 rfl) ?_
      refine r_geti C0 hH fl_X9_225 g1 rfl dX9_judged_26 ?_
      obtain rfl := Option.some.inj hf
      exact r_iret (d' := d) C0 hr hlocks hH rfl dX9_judged_29
    · replace hf := it hf c3
      refine lv_aload_n hx hb dX9_judged_18 rfl (lv_at hl 0 rfl) ?_
      refine r_geti C0 hH fl_X9_222 g1 rfl dX9_judged_19 ?_
      refine lv_goto (tgt := 29) hx hb dX9_judged_22 (by decide) ?_
      obtain rfl := Option.some.inj hf
      exact r_iret (d' := d) C0 hr hlocks hH rfl dX9_judged_29
  · replace hf := it hf c2
    refine lv_bipush (v := (-4 : Int32)) hx hb dX9_judged_9 (by decide) ?_
    refine lv_goto (tgt := 29) hx hb dX9_judged_11 (by decide) ?_
    obtain rfl := Option.some.inj hf
    exact r_iret (d' := d) C0 hr hlocks hH rfl dX9_judged_29
theorem dX9_place_0 : decode cX9_place 0 = .ok (.aload_n 0, 1) := by decide +kernel
theorem dX9_place_1 : decode cX9_place 1 = .ok (.iload_n 1, 1) := by decide +kernel
theorem dX9_place_2 : decode cX9_place 2 = .ok (.invokevirtual 180, 3) := by decide +kernel
theorem dX9_place_5 : decode cX9_place 5 = .ok (.ifCond .eq 17, 3) := by decide +kernel
theorem dX9_place_8 : decode cX9_place 8 = .ok (.iload_n 2, 1) := by decide +kernel
theorem dX9_place_9 : decode cX9_place 9 = .ok (.invokestatic 212, 3) := by decide +kernel
theorem dX9_place_12 : decode cX9_place 12 = .ok (.ifCond .eq 10, 3) := by decide +kernel
theorem dX9_place_15 : decode cX9_place 15 = .ok (.iload_n 3, 1) := by decide +kernel
theorem dX9_place_16 : decode cX9_place 16 = .ok (.invokestatic 228, 3) := by decide +kernel
theorem dX9_place_19 : decode cX9_place 19 = .ok (.ifCond .ne 5, 3) := by decide +kernel
theorem dX9_place_22 : decode cX9_place 22 = .ok (.iconst (-1), 1) := by decide +kernel
theorem dX9_place_23 : decode cX9_place 23 = .ok (.ireturn, 1) := by decide +kernel
theorem dX9_place_24 : decode cX9_place 24 = .ok (.aload_n 0, 1) := by decide +kernel
theorem dX9_place_25 : decode cX9_place 25 = .ok (.iconst (-1), 1) := by decide +kernel
theorem dX9_place_26 : decode cX9_place 26 = .ok (.invokevirtual 231, 3) := by decide +kernel
theorem dX9_place_29 : decode cX9_place 29 = .ok (.iconst 0, 1) := by decide +kernel
theorem dX9_place_30 : decode cX9_place 30 = .ok (.istore 4, 2) := by decide +kernel
theorem dX9_place_32 : decode cX9_place 32 = .ok (.iload 4, 2) := by decide +kernel
theorem dX9_place_34 : decode cX9_place 34 = .ok (.iconst 4, 1) := by decide +kernel
theorem dX9_place_35 : decode cX9_place 35 = .ok (.if_icmp .ge 63, 3) := by decide +kernel
theorem dX9_place_38 : decode cX9_place 38 = .ok (.aload_n 0, 1) := by decide +kernel
theorem dX9_place_39 : decode cX9_place 39 = .ok (.invokevirtual 177, 3) := by decide +kernel
theorem dX9_place_42 : decode cX9_place 42 = .ok (.aload_n 0, 1) := by decide +kernel
theorem dX9_place_43 : decode cX9_place 43 = .ok (.iload_n 1, 1) := by decide +kernel
theorem dX9_place_44 : decode cX9_place 44 = .ok (.iconst 2, 1) := by decide +kernel
theorem dX9_place_45 : decode cX9_place 45 = .ok (.aload_n 0, 1) := by decide +kernel
theorem dX9_place_46 : decode cX9_place 46 = .ok (.iload_n 1, 1) := by decide +kernel
theorem dX9_place_47 : decode cX9_place 47 = .ok (.invokevirtual 139, 3) := by decide +kernel
theorem dX9_place_50 : decode cX9_place 50 = .ok (.ifCond .eq 8, 3) := by decide +kernel
theorem dX9_place_53 : decode cX9_place 53 = .ok (.bipush 12, 2) := by decide +kernel
theorem dX9_place_55 : decode cX9_place 55 = .ok (.goto 9, 3) := by decide +kernel
theorem dX9_place_58 : decode cX9_place 58 = .ok (.aload_n 0, 1) := by decide +kernel
theorem dX9_place_59 : decode cX9_place 59 = .ok (.iload_n 1, 1) := by decide +kernel
theorem dX9_place_60 : decode cX9_place 60 = .ok (.iconst 2, 1) := by decide +kernel
theorem dX9_place_61 : decode cX9_place 61 = .ok (.invokevirtual 136, 3) := by decide +kernel
theorem dX9_place_64 : decode cX9_place 64 = .ok (.invokevirtual 153, 3) := by decide +kernel
theorem dX9_place_67 : decode cX9_place 67 = .ok (.aload_n 0, 1) := by decide +kernel
theorem dX9_place_68 : decode cX9_place 68 = .ok (.iload_n 1, 1) := by decide +kernel
theorem dX9_place_69 : decode cX9_place 69 = .ok (.iconst 1, 1) := by decide +kernel
theorem dX9_place_70 : decode cX9_place 70 = .ok (.iload 4, 2) := by decide +kernel
theorem dX9_place_72 : decode cX9_place 72 = .ok (.invokevirtual 153, 3) := by decide +kernel
theorem dX9_place_75 : decode cX9_place 75 = .ok (.aload_n 0, 1) := by decide +kernel
theorem dX9_place_76 : decode cX9_place 76 = .ok (.iload_n 2, 1) := by decide +kernel
theorem dX9_place_77 : decode cX9_place 77 = .ok (.invokevirtual 171, 3) := by decide +kernel
theorem dX9_place_80 : decode cX9_place 80 = .ok (.aload_n 0, 1) := by decide +kernel
theorem dX9_place_81 : decode cX9_place 81 = .ok (.iload 4, 2) := by decide +kernel
theorem dX9_place_83 : decode cX9_place 83 = .ok (.aload_n 0, 1) := by decide +kernel
theorem dX9_place_84 : decode cX9_place 84 = .ok (.iload_n 1, 1) := by decide +kernel
theorem dX9_place_85 : decode cX9_place 85 = .ok (.iconst 3, 1) := by decide +kernel
theorem dX9_place_86 : decode cX9_place 86 = .ok (.invokevirtual 136, 3) := by decide +kernel
theorem dX9_place_89 : decode cX9_place 89 = .ok (.invokevirtual 234, 3) := by decide +kernel
theorem dX9_place_92 : decode cX9_place 92 = .ok (.iinc 4 1, 3) := by decide +kernel
theorem dX9_place_95 : decode cX9_place 95 = .ok (.goto (-63), 3) := by decide +kernel
theorem dX9_place_98 : decode cX9_place 98 = .ok (.aload_n 0, 1) := by decide +kernel
theorem dX9_place_99 : decode cX9_place 99 = .ok (.iload_n 3, 1) := by decide +kernel
theorem dX9_place_100 : decode cX9_place 100 = .ok (.invokevirtual 238, 3) := by decide +kernel
theorem dX9_place_103 : decode cX9_place 103 = .ok (.ireturn, 1) := by decide +kernel
def f_X9_place_J64 (Λ : List Ly) (d : Dt) (kb : Int32 → Dt → Option (Int32 × Dt)) (p0 : Nat) (v1 : Int32) (v2 : Int32) (v3 : Int32) (v4 : Int32) (y0 : Int32) (y1 : Int32) (y2 : Int32) (y3 : Nat) : Option (Int32 × Dt) := if clsAt Λ y3 = some 9 then (Option.bind (f_X9_becomesOf Λ d y3 y2 y1 y0) fun z16 => if clsAt Λ p0 = some 9 then (Option.bind (f_X9_becomesOf Λ z16 p0 v1 (1 : Int32) v4) fun z18 => Option.bind (f_X9_weeksGo Λ z18 p0 v2) fun z19 => Option.bind (f_X9_of Λ z19 p0 v1 (3 : Int32)) fun z20 => Option.bind (f_X9_judges Λ z19 p0 v4 z20) fun z21 => kb (v4 + (1 : Int32)) z21) else none) else none
def f_X9_place_L32 (Λ : List Ly) (p0 : Nat) (v1 : Int32) (v2 : Int32) (v3 : Int32) : Nat → Int32 → Dt → Option (Int32 × Dt)
  | 0, _, _ => none
  | n + 1, v4, d => if (4 : Int32) ≤ v4 then (if clsAt Λ p0 = some 9 then (Option.bind (f_X9_judged Λ d p0 v3) fun z9 => some (z9, d)) else none) else (if clsAt Λ p0 = some 9 then (Option.bind (f_X9_starts Λ d p0) fun z11 => Option.bind (f_X9_isFree Λ z11 p0 v1) fun z12 => if z12 = 0 then (Option.bind (f_X9_of Λ z11 p0 v1 (2 : Int32)) fun z14 => f_X9_place_J64 Λ z11 (f_X9_place_L32 Λ p0 v1 v2 v3 n) p0 v1 v2 v3 v4 z14 (2 : Int32) v1 p0) else (f_X9_place_J64 Λ z11 (f_X9_place_L32 Λ p0 v1 v2 v3 n) p0 v1 v2 v3 v4 (12 : Int32) (2 : Int32) v1 p0)) else none)
def f_X9_place (Λ : List Ly) (d : Dt) (p0 : Nat) (v1 : Int32) (v2 : Int32) (v3 : Int32) : Option (Int32 × Dt) := if clsAt Λ p0 = some 9 then (Option.bind (f_X9_isChild Λ d p0 v1) fun z2 => if z2 = 0 then (some ((-1 : Int32), d)) else (if (f_X9_isFar v2) = 0 then (some ((-1 : Int32), d)) else (if (f_X9_isPart v3) = 0 then (some ((-1 : Int32), d)) else (Option.bind (f_X9_startsJudging Λ d p0 (-1 : Int32)) fun z6 => f_X9_place_L32 Λ p0 v1 v2 v3 FU (0 : Int32) z6)))) else none
set_option maxHeartbeats 4000000 in
set_option maxRecDepth 100000 in
theorem w_X9_place_J64 {p : Program} {l : Launch} {e : Env} {s : State} {m : MethodId} {args : Array Value} {below : List Frame} {meth : Method} {c : Code} {Γ : Cx} {Λ : List Ly} {z : Int32 × Dt} {d : Dt} (C0 : Ct Γ p s m args c cX9_place 5 "SeasonBoundModel") (hr : meth.sig.returnType = (some FieldType.int)) (hlocks : meth.locks = false) (kb : Int32 → Dt → Option (Int32 × Dt)) (p0 : Nat) (v1 : Int32) (v2 : Int32) (v3 : Int32) (v4 : Int32) (y0 : Int32) (y1 : Int32) (y2 : Int32) (y3 : Nat)
    (hkb : ∀ (w0 : Int32) (d : Dt), (kb w0 d = some z) → ∀ (H : Heap) (locs : List Loc) (ls : Array Slot), Hs Γ Λ d s H locs → lv_has ls 5 [(0, .ref (ad Γ.2.2.1 p0)), (1, .int v1), (2, .int v2), (3, .int v3), (4, .int w0)] → W p l e { frames := 6, cells := 0, slots := 0, locals := 131 } s m args below meth c H locs 0 0 (MQ below (QN Γ Λ z.2 (some (.int z.1))) args s 0 0 (AP Γ)) (F0 m 32 ls []))
    (hf : f_X9_place_J64 Λ d kb p0 v1 v2 v3 v4 y0 y1 y2 y3 = some z) (H : Heap) (locs : List Loc) (ls : Array Slot) (hH : Hs Γ Λ d s H locs) (hl : lv_has ls 5 [(0, .ref (ad Γ.2.2.1 p0)), (1, .int v1), (2, .int v2), (3, .int v3), (4, .int v4)]) : W p l e { frames := 6, cells := 0, slots := 0, locals := 131 } s m args below meth c H locs 0 0 (MQ below (QN Γ Λ z.2 (some (.int z.1))) args s 0 0 (AP Γ)) (F0 m 64 ls [.int y0, .int y1, .int y2, .ref (ad Γ.2.2.1 y3)]) := by
  obtain ⟨hx, hb, hml, hown, hts, hK⟩ := id C0
  unfold f_X9_place_J64 at hf
  obtain ⟨g15, hf⟩ := gd hf
  obtain ⟨z16, h16, hf⟩ := ob hf
  refine r_callVv (rest := []) C0 hH (c_X9_becomesOf Γ l Λ d y3 y2 y1 y0 z16 h16) cv_X9_153 g15 (by decide) rfl hl.1 rfl (Nat.le_of_ble_eq_true rfl) dX9_place_64 (by decide) (fun H locs hH => ?_)
  refine lv_aload_n hx hb dX9_place_67 rfl (lv_at hl 0 rfl) ?_
  refine lv_iload_n hx hb dX9_place_68 rfl (lv_at hl 1 rfl) ?_
  refine lv_iconst (v := (1 : Int32)) hx hb dX9_place_69 (by decide) ?_
  refine lv_iload hx hb dX9_place_70 (lv_at hl 4 rfl) ?_
  obtain ⟨g17, hf⟩ := gd hf
  obtain ⟨z18, h18, hf⟩ := ob hf
  refine r_callVv (rest := []) C0 hH (c_X9_becomesOf Γ l Λ z16 p0 v1 (1 : Int32) v4 z18 h18) cv_X9_153 g17 (by decide) rfl hl.1 rfl (Nat.le_of_ble_eq_true rfl) dX9_place_72 (by decide) (fun H locs hH => ?_)
  refine lv_aload_n hx hb dX9_place_75 rfl (lv_at hl 0 rfl) ?_
  refine lv_iload_n hx hb dX9_place_76 rfl (lv_at hl 2 rfl) ?_
  obtain ⟨z19, h19, hf⟩ := ob hf
  refine r_callVv (rest := []) C0 hH (c_X9_weeksGo Γ l Λ z18 p0 v2 z19 h19) cv_X9_171 g17 (by decide) rfl hl.1 rfl (Nat.le_of_ble_eq_true rfl) dX9_place_77 (by decide) (fun H locs hH => ?_)
  refine lv_aload_n hx hb dX9_place_80 rfl (lv_at hl 0 rfl) ?_
  refine lv_iload hx hb dX9_place_81 (lv_at hl 4 rfl) ?_
  refine lv_aload_n hx hb dX9_place_83 rfl (lv_at hl 0 rfl) ?_
  refine lv_iload_n hx hb dX9_place_84 rfl (lv_at hl 1 rfl) ?_
  refine lv_iconst (v := (3 : Int32)) hx hb dX9_place_85 (by decide) ?_
  obtain ⟨z20, h20, hf⟩ := ob hf
  refine r_callVi (rest := [.int v4, .ref (ad Γ.2.2.1 p0)]) C0 hH (c_X9_of Γ l Λ z19 p0 v1 (3 : Int32) z20 h20) cv_X9_136 g17 (by decide) rfl hl.1 rfl (Nat.le_of_ble_eq_true rfl) dX9_place_86 (by decide) (fun H locs hH => ?_)
  obtain ⟨z21, h21, hf⟩ := ob hf
  refine r_callVv (rest := []) C0 hH (c_X9_judges Γ l Λ z19 p0 v4 z20 z21 h21) cv_X9_234 g17 (by decide) rfl hl.1 rfl (Nat.le_of_ble_eq_true rfl) dX9_place_89 (by decide) (fun H locs hH => ?_)
  refine lv_iinc (v := (v4 + (1 : Int32))) (lv' := [(4, .int (v4 + (1 : Int32))), (0, .ref (ad Γ.2.2.1 p0)), (1, .int v1), (2, .int v2), (3, .int v3)]) hx hb dX9_place_92 hl (k := 4) rfl (congrArg (fun w => v4 + w) (by decide)) (by decide) rfl (fun ls hl => ?_)
  refine lv_goto (tgt := 32) hx hb dX9_place_95 (by decide) ?_
  exact hkb (v4 + (1 : Int32)) z21 hf _ _ _ hH (lv_sub hl [1, 2, 3, 4, 0] rfl)
set_option maxHeartbeats 4000000 in
set_option maxRecDepth 100000 in
theorem w_X9_place_L32 {p : Program} {l : Launch} {e : Env} {s : State} {m : MethodId} {args : Array Value} {below : List Frame} {meth : Method} {c : Code} {Γ : Cx} {Λ : List Ly} {z : Int32 × Dt} (C0 : Ct Γ p s m args c cX9_place 5 "SeasonBoundModel") (hr : meth.sig.returnType = (some FieldType.int)) (hlocks : meth.locks = false) (p0 : Nat) (v1 : Int32) (v2 : Int32) (v3 : Int32) :
    ∀ (n : Nat) (v4 : Int32) (d : Dt), f_X9_place_L32 Λ p0 v1 v2 v3 n v4 d = some z → ∀ (H : Heap) (locs : List Loc) (ls : Array Slot), Hs Γ Λ d s H locs → lv_has ls 5 [(0, .ref (ad Γ.2.2.1 p0)), (1, .int v1), (2, .int v2), (3, .int v3), (4, .int v4)] → W p l e { frames := 6, cells := 0, slots := 0, locals := 131 } s m args below meth c H locs 0 0 (MQ below (QN Γ Λ z.2 (some (.int z.1))) args s 0 0 (AP Γ)) (F0 m 32 ls []) := by
  obtain ⟨hx, hb, hml, hown, hts, hK⟩ := id C0
  intro n
  induction n with
  | zero =>
    intro v4 d hf
    cases hf
  | succ n ih =>
    intro v4 d hf H locs ls hH hl
    unfold f_X9_place_L32 at hf
    refine lv_iload hx hb dX9_place_32 (lv_at hl 4 rfl) ?_
    refine lv_iconst (v := (4 : Int32)) hx hb dX9_place_34 (by decide) ?_
    refine lv_icmp_ge (tgt := 98) hx hb dX9_place_35 (by decide) (fun c7 => ?_) (fun c7 => ?_)
    · replace hf := it hf c7
      refine lv_aload_n hx hb dX9_place_98 rfl (lv_at hl 0 rfl) ?_
      refine lv_iload_n hx hb dX9_place_99 rfl (lv_at hl 3 rfl) ?_
      obtain ⟨g8, hf⟩ := gd hf
      obtain ⟨z9, h9, hf⟩ := ob hf
      refine r_callVi (rest := []) C0 hH (c_X9_judged Γ l Λ d p0 v3 z9 h9) cv_X9_238 g8 (by decide) rfl hl.1 rfl (Nat.le_of_ble_eq_true rfl) dX9_place_100 (by decide) (fun H locs hH => ?_)
      obtain rfl := Option.some.inj hf
      exact r_iret (d' := d) C0 hr hlocks hH rfl dX9_place_103
    · replace hf := ie hf c7
      refine lv_aload_n hx hb dX9_place_38 rfl (lv_at hl 0 rfl) ?_
      obtain ⟨g10, hf⟩ := gd hf
      obtain ⟨z11, h11, hf⟩ := ob hf
      refine r_callVv (rest := []) C0 hH (c_X9_starts Γ l Λ d p0 z11 h11) cv_X9_177 g10 (by decide) rfl hl.1 rfl (Nat.le_of_ble_eq_true rfl) dX9_place_39 (by decide) (fun H locs hH => ?_)
      refine lv_aload_n hx hb dX9_place_42 rfl (lv_at hl 0 rfl) ?_
      refine lv_iload_n hx hb dX9_place_43 rfl (lv_at hl 1 rfl) ?_
      refine lv_iconst (v := (2 : Int32)) hx hb dX9_place_44 (by decide) ?_
      refine lv_aload_n hx hb dX9_place_45 rfl (lv_at hl 0 rfl) ?_
      refine lv_iload_n hx hb dX9_place_46 rfl (lv_at hl 1 rfl) ?_
      obtain ⟨z12, h12, hf⟩ := ob hf
      refine r_callVi (rest := [.int (2 : Int32), .int v1, .ref (ad Γ.2.2.1 p0)]) C0 hH (c_X9_isFree Γ l Λ z11 p0 v1 z12 h12) cv_X9_139 g10 (by decide) rfl hl.1 rfl (Nat.le_of_ble_eq_true rfl) dX9_place_47 (by decide) (fun H locs hH => ?_)
      refine lv_if_eq (tgt := 58) hx hb dX9_place_50 (by decide) (fun c13 => ?_) (fun c13 => ?_)
      · replace hf := it hf c13
        refine lv_aload_n hx hb dX9_place_58 rfl (lv_at hl 0 rfl) ?_
        refine lv_iload_n hx hb dX9_place_59 rfl (lv_at hl 1 rfl) ?_
        refine lv_iconst (v := (2 : Int32)) hx hb dX9_place_60 (by decide) ?_
        obtain ⟨z14, h14, hf⟩ := ob hf
        refine r_callVi (rest := [.int (2 : Int32), .int v1, .ref (ad Γ.2.2.1 p0)]) C0 hH (c_X9_of Γ l Λ z11 p0 v1 (2 : Int32) z14 h14) cv_X9_136 g10 (by decide) rfl hl.1 rfl (Nat.le_of_ble_eq_true rfl) dX9_place_61 (by decide) (fun H locs hH => ?_)
        exact w_X9_place_J64 C0 hr hlocks _ p0 v1 v2 v3 v4 z14 (2 : Int32) v1 p0 ih hf _ _ _ hH (lv_sub hl [0, 1, 2, 3, 4] rfl)
      · replace hf := ie hf c13
        refine lv_bipush (v := (12 : Int32)) hx hb dX9_place_53 (by decide) ?_
        refine lv_goto (tgt := 64) hx hb dX9_place_55 (by decide) ?_
        exact w_X9_place_J64 C0 hr hlocks _ p0 v1 v2 v3 v4 (12 : Int32) (2 : Int32) v1 p0 ih hf _ _ _ hH (lv_sub hl [0, 1, 2, 3, 4] rfl)
set_option maxHeartbeats 4000000 in
set_option maxRecDepth 100000 in
theorem c_X9_place (Γ : Cx) (l : Launch) (Λ : List Ly) (d : Dt) (p0 : Nat) (v1 : Int32) (v2 : Int32) (v3 : Int32) (z : Int32 × Dt) (hf : f_X9_place Λ d p0 v1 v2 v3 = some z) : Cn Γ l yX9_place cX9_place 5 (some FieldType.int) 6 131 [.ref (ad Γ.2.2.1 p0), .int v1, .int v2, .int v3] Λ d (some (.int z.1)) z.2 := by
  refine Cn.of (own := "SeasonBoundModel") (by decide +kernel) rfl (Nat.le_of_ble_eq_true rfl) ?_
  intro p e s m below meth c C0 hr hlocks hH ls hl
  have hl : lv_has ls 5 [(0, .ref (ad Γ.2.2.1 p0)), (1, .int v1), (2, .int v2), (3, .int v3)] := hl
  obtain ⟨hx, hb, hml, hown, hts, hK⟩ := id C0
  unfold f_X9_place at hf
  refine lv_aload_n hx hb dX9_place_0 rfl (lv_at hl 0 rfl) ?_
  refine lv_iload_n hx hb dX9_place_1 rfl (lv_at hl 1 rfl) ?_
  obtain ⟨g1, hf⟩ := gd hf
  obtain ⟨z2, h2, hf⟩ := ob hf
  refine r_callVi (rest := []) C0 hH (c_X9_isChild Γ l Λ d p0 v1 z2 h2) cv_X9_180 g1 (by decide) rfl hl.1 rfl (Nat.le_of_ble_eq_true rfl) dX9_place_2 (by decide) (fun H locs hH => ?_)
  refine lv_if_eq (tgt := 22) hx hb dX9_place_5 (by decide) (fun c3 => ?_) (fun c3 => ?_)
  · replace hf := it hf c3
    refine lv_iconst (v := (-1 : Int32)) hx hb dX9_place_22 (by decide) ?_
    obtain rfl := Option.some.inj hf
    exact r_iret (d' := d) C0 hr hlocks hH rfl dX9_place_23
  · replace hf := ie hf c3
    refine lv_iload_n hx hb dX9_place_8 rfl (lv_at hl 2 rfl) ?_
    refine r_callSi (rest := []) C0 hH (c_X9_isFar Γ l Λ d v2) cs_X9_212 (by decide) rfl hl.1 rfl (Nat.le_of_ble_eq_true rfl) dX9_place_9 (by decide) (fun H locs hH => ?_)
    refine lv_if_eq (tgt := 22) hx hb dX9_place_12 (by decide) (fun c4 => ?_) (fun c4 => ?_)
    · replace hf := it hf c4
      refine lv_iconst (v := (-1 : Int32)) hx hb dX9_place_22 (by decide) ?_
      obtain rfl := Option.some.inj hf
      exact r_iret (d' := d) C0 hr hlocks hH rfl dX9_place_23
    · replace hf := ie hf c4
      refine lv_iload_n hx hb dX9_place_15 rfl (lv_at hl 3 rfl) ?_
      refine r_callSi (rest := []) C0 hH (c_X9_isPart Γ l Λ d v3) cs_X9_228 (by decide) rfl hl.1 rfl (Nat.le_of_ble_eq_true rfl) dX9_place_16 (by decide) (fun H locs hH => ?_)
      refine lv_if_ne (tgt := 24) hx hb dX9_place_19 (by decide) (fun c5 => ?_) (fun c5 => ?_)
      · replace hf := ie hf c5
        refine lv_aload_n hx hb dX9_place_24 rfl (lv_at hl 0 rfl) ?_
        refine lv_iconst (v := (-1 : Int32)) hx hb dX9_place_25 (by decide) ?_
        obtain ⟨z6, h6, hf⟩ := ob hf
        refine r_callVv (rest := []) C0 hH (c_X9_startsJudging Γ l Λ d p0 (-1 : Int32) z6 h6) cv_X9_231 g1 (by decide) rfl hl.1 rfl (Nat.le_of_ble_eq_true rfl) dX9_place_26 (by decide) (fun H locs hH => ?_)
        refine lv_iconst (v := (0 : Int32)) hx hb dX9_place_29 (by decide) ?_
        refine lv_istore (lv' := [(4, .int (0 : Int32)), (0, .ref (ad Γ.2.2.1 p0)), (1, .int v1), (2, .int v2), (3, .int v3)]) hx hb dX9_place_30 hl (by decide) rfl (fun ls hl => ?_)
        refine w_X9_place_L32 C0 hr hlocks p0 v1 v2 v3 FU (0 : Int32) z6 hf _ _ _ hH (lv_sub hl [1, 2, 3, 4, 0] rfl)
      · replace hf := it hf c5
        refine lv_iconst (v := (-1 : Int32)) hx hb dX9_place_22 (by decide) ?_
        obtain rfl := Option.some.inj hf
        exact r_iret (d' := d) C0 hr hlocks hH rfl dX9_place_23
theorem dX9_swap_0 : decode cX9_swap 0 = .ok (.iload_n 1, 1) := by decide +kernel
theorem dX9_swap_1 : decode cX9_swap 1 = .ok (.invokestatic 212, 3) := by decide +kernel
theorem dX9_swap_4 : decode cX9_swap 4 = .ok (.ifCond .eq 10, 3) := by decide +kernel
theorem dX9_swap_7 : decode cX9_swap 7 = .ok (.iload_n 2, 1) := by decide +kernel
theorem dX9_swap_8 : decode cX9_swap 8 = .ok (.invokestatic 228, 3) := by decide +kernel
theorem dX9_swap_11 : decode cX9_swap 11 = .ok (.ifCond .ne 5, 3) := by decide +kernel
theorem dX9_swap_14 : decode cX9_swap 14 = .ok (.iconst (-1), 1) := by decide +kernel
theorem dX9_swap_15 : decode cX9_swap 15 = .ok (.ireturn, 1) := by decide +kernel
theorem dX9_swap_16 : decode cX9_swap 16 = .ok (.aload_n 0, 1) := by decide +kernel
theorem dX9_swap_17 : decode cX9_swap 17 = .ok (.invokevirtual 177, 3) := by decide +kernel
theorem dX9_swap_20 : decode cX9_swap 20 = .ok (.aload_n 0, 1) := by decide +kernel
theorem dX9_swap_21 : decode cX9_swap 21 = .ok (.aload_n 0, 1) := by decide +kernel
theorem dX9_swap_22 : decode cX9_swap 22 = .ok (.iload_n 1, 1) := by decide +kernel
theorem dX9_swap_23 : decode cX9_swap 23 = .ok (.invokevirtual 204, 3) := by decide +kernel
theorem dX9_swap_26 : decode cX9_swap 26 = .ok (.invokevirtual 231, 3) := by decide +kernel
theorem dX9_swap_29 : decode cX9_swap 29 = .ok (.iconst 0, 1) := by decide +kernel
theorem dX9_swap_30 : decode cX9_swap 30 = .ok (.istore_n 3, 1) := by decide +kernel
theorem dX9_swap_31 : decode cX9_swap 31 = .ok (.iload_n 3, 1) := by decide +kernel
theorem dX9_swap_32 : decode cX9_swap 32 = .ok (.aload_n 0, 1) := by decide +kernel
theorem dX9_swap_33 : decode cX9_swap 33 = .ok (.getfield 7, 3) := by decide +kernel
theorem dX9_swap_36 : decode cX9_swap 36 = .ok (.bipush 37, 2) := by decide +kernel
theorem dX9_swap_38 : decode cX9_swap 38 = .ok (.iaload, 1) := by decide +kernel
theorem dX9_swap_39 : decode cX9_swap 39 = .ok (.if_icmp .ge 99, 3) := by decide +kernel
theorem dX9_swap_42 : decode cX9_swap 42 = .ok (.iload_n 3, 1) := by decide +kernel
theorem dX9_swap_43 : decode cX9_swap 43 = .ok (.iconst 1, 1) := by decide +kernel
theorem dX9_swap_44 : decode cX9_swap 44 = .ok (.iadd, 1) := by decide +kernel
theorem dX9_swap_45 : decode cX9_swap 45 = .ok (.istore 4, 2) := by decide +kernel
theorem dX9_swap_47 : decode cX9_swap 47 = .ok (.iload 4, 2) := by decide +kernel
theorem dX9_swap_49 : decode cX9_swap 49 = .ok (.aload_n 0, 1) := by decide +kernel
theorem dX9_swap_50 : decode cX9_swap 50 = .ok (.getfield 7, 3) := by decide +kernel
theorem dX9_swap_53 : decode cX9_swap 53 = .ok (.bipush 37, 2) := by decide +kernel
theorem dX9_swap_55 : decode cX9_swap 55 = .ok (.iaload, 1) := by decide +kernel
theorem dX9_swap_56 : decode cX9_swap 56 = .ok (.if_icmp .ge 76, 3) := by decide +kernel
theorem dX9_swap_59 : decode cX9_swap 59 = .ok (.aload_n 0, 1) := by decide +kernel
theorem dX9_swap_60 : decode cX9_swap 60 = .ok (.iload_n 3, 1) := by decide +kernel
theorem dX9_swap_61 : decode cX9_swap 61 = .ok (.invokevirtual 199, 3) := by decide +kernel
theorem dX9_swap_64 : decode cX9_swap 64 = .ok (.ifCond .eq 62, 3) := by decide +kernel
theorem dX9_swap_67 : decode cX9_swap 67 = .ok (.aload_n 0, 1) := by decide +kernel
theorem dX9_swap_68 : decode cX9_swap 68 = .ok (.iload 4, 2) := by decide +kernel
theorem dX9_swap_70 : decode cX9_swap 70 = .ok (.invokevirtual 199, 3) := by decide +kernel
theorem dX9_swap_73 : decode cX9_swap 73 = .ok (.ifCond .eq 53, 3) := by decide +kernel
theorem dX9_swap_76 : decode cX9_swap 76 = .ok (.aload_n 0, 1) := by decide +kernel
theorem dX9_swap_77 : decode cX9_swap 77 = .ok (.invokevirtual 177, 3) := by decide +kernel
theorem dX9_swap_80 : decode cX9_swap 80 = .ok (.aload_n 0, 1) := by decide +kernel
theorem dX9_swap_81 : decode cX9_swap 81 = .ok (.iload_n 3, 1) := by decide +kernel
theorem dX9_swap_82 : decode cX9_swap 82 = .ok (.iconst 1, 1) := by decide +kernel
theorem dX9_swap_83 : decode cX9_swap 83 = .ok (.invokevirtual 136, 3) := by decide +kernel
theorem dX9_swap_86 : decode cX9_swap 86 = .ok (.istore 5, 2) := by decide +kernel
theorem dX9_swap_88 : decode cX9_swap 88 = .ok (.aload_n 0, 1) := by decide +kernel
theorem dX9_swap_89 : decode cX9_swap 89 = .ok (.iload_n 3, 1) := by decide +kernel
theorem dX9_swap_90 : decode cX9_swap 90 = .ok (.iconst 1, 1) := by decide +kernel
theorem dX9_swap_91 : decode cX9_swap 91 = .ok (.aload_n 0, 1) := by decide +kernel
theorem dX9_swap_92 : decode cX9_swap 92 = .ok (.iload 4, 2) := by decide +kernel
theorem dX9_swap_94 : decode cX9_swap 94 = .ok (.iconst 1, 1) := by decide +kernel
theorem dX9_swap_95 : decode cX9_swap 95 = .ok (.invokevirtual 136, 3) := by decide +kernel
theorem dX9_swap_98 : decode cX9_swap 98 = .ok (.invokevirtual 153, 3) := by decide +kernel
theorem dX9_swap_101 : decode cX9_swap 101 = .ok (.aload_n 0, 1) := by decide +kernel
theorem dX9_swap_102 : decode cX9_swap 102 = .ok (.iload 4, 2) := by decide +kernel
theorem dX9_swap_104 : decode cX9_swap 104 = .ok (.iconst 1, 1) := by decide +kernel
theorem dX9_swap_105 : decode cX9_swap 105 = .ok (.iload 5, 2) := by decide +kernel
theorem dX9_swap_107 : decode cX9_swap 107 = .ok (.invokevirtual 153, 3) := by decide +kernel
theorem dX9_swap_110 : decode cX9_swap 110 = .ok (.aload_n 0, 1) := by decide +kernel
theorem dX9_swap_111 : decode cX9_swap 111 = .ok (.bipush 10, 2) := by decide +kernel
theorem dX9_swap_113 : decode cX9_swap 113 = .ok (.iload_n 3, 1) := by decide +kernel
theorem dX9_swap_114 : decode cX9_swap 114 = .ok (.imul, 1) := by decide +kernel
theorem dX9_swap_115 : decode cX9_swap 115 = .ok (.iload 4, 2) := by decide +kernel
theorem dX9_swap_117 : decode cX9_swap 117 = .ok (.iadd, 1) := by decide +kernel
theorem dX9_swap_118 : decode cX9_swap 118 = .ok (.aload_n 0, 1) := by decide +kernel
theorem dX9_swap_119 : decode cX9_swap 119 = .ok (.iload_n 1, 1) := by decide +kernel
theorem dX9_swap_120 : decode cX9_swap 120 = .ok (.invokevirtual 204, 3) := by decide +kernel
theorem dX9_swap_123 : decode cX9_swap 123 = .ok (.invokevirtual 234, 3) := by decide +kernel
theorem dX9_swap_126 : decode cX9_swap 126 = .ok (.iinc 4 1, 3) := by decide +kernel
theorem dX9_swap_129 : decode cX9_swap 129 = .ok (.goto (-82), 3) := by decide +kernel
theorem dX9_swap_132 : decode cX9_swap 132 = .ok (.iinc 3 1, 3) := by decide +kernel
theorem dX9_swap_135 : decode cX9_swap 135 = .ok (.goto (-104), 3) := by decide +kernel
theorem dX9_swap_138 : decode cX9_swap 138 = .ok (.aload_n 0, 1) := by decide +kernel
theorem dX9_swap_139 : decode cX9_swap 139 = .ok (.iload_n 2, 1) := by decide +kernel
theorem dX9_swap_140 : decode cX9_swap 140 = .ok (.invokevirtual 238, 3) := by decide +kernel
theorem dX9_swap_143 : decode cX9_swap 143 = .ok (.ireturn, 1) := by decide +kernel
def f_X9_swap_L47 (Λ : List Ly) (p0 : Nat) (v1 : Int32) (v2 : Int32) (v3 : Int32) (k132 : Int32 → Dt → Option (Int32 × Dt)) : Nat → Int32 → Dt → Option (Int32 × Dt)
  | 0, _, _ => none
  | n + 1, v4, d => Option.bind (rf Λ p0 9 0) fun q12 => if okA Λ q12 1 (37 : Int32) = true then (if (d.1 q12 ((37 : Int32)).toNatClampNeg) ≤ v4 then (k132 v4 d) else (if clsAt Λ p0 = some 9 then (Option.bind (f_X9_isBound Λ d p0 v3) fun z16 => if z16 = 0 then (f_X9_swap_L47 Λ p0 v1 v2 v3 k132 n (v4 + (1 : Int32)) d) else (Option.bind (f_X9_isBound Λ d p0 v4) fun z18 => if z18 = 0 then (f_X9_swap_L47 Λ p0 v1 v2 v3 k132 n (v4 + (1 : Int32)) d) else (Option.bind (f_X9_starts Λ d p0) fun z20 => Option.bind (f_X9_of Λ z20 p0 v3 (1 : Int32)) fun z21 => Option.bind (f_X9_of Λ z20 p0 v4 (1 : Int32)) fun z22 => Option.bind (f_X9_becomesOf Λ z20 p0 v3 (1 : Int32) z22) fun z23 => Option.bind (f_X9_becomesOf Λ z23 p0 v4 (1 : Int32) z21) fun z24 => Option.bind (f_X9_skillsBehind Λ z24 p0 v1) fun z25 => Option.bind (f_X9_judges Λ z25.2 p0 (((10 : Int32) * v3) + v4) z25.1) fun z26 => f_X9_swap_L47 Λ p0 v1 v2 v3 k132 n (v4 + (1 : Int32)) z26))) else none)) else none
def f_X9_swap_L31 (Λ : List Ly) (p0 : Nat) (v1 : Int32) (v2 : Int32) : Nat → Int32 → Dt → Option (Int32 × Dt)
  | 0, _, _ => none
  | n + 1, v3, d => Option.bind (rf Λ p0 9 0) fun q7 => if okA Λ q7 1 (37 : Int32) = true then (if (d.1 q7 ((37 : Int32)).toNatClampNeg) ≤ v3 then (if clsAt Λ p0 = some 9 then (Option.bind (f_X9_judged Λ d p0 v2) fun z11 => some (z11, d)) else none) else (f_X9_swap_L47 Λ p0 v1 v2 v3 (fun x27_4 d27 => f_X9_swap_L31 Λ p0 v1 v2 n (v3 + (1 : Int32)) d27) FU (v3 + (1 : Int32)) d)) else none
def f_X9_swap (Λ : List Ly) (d : Dt) (p0 : Nat) (v1 : Int32) (v2 : Int32) : Option (Int32 × Dt) := if (f_X9_isFar v1) = 0 then (some ((-1 : Int32), d)) else (if (f_X9_isPart v2) = 0 then (some ((-1 : Int32), d)) else (if clsAt Λ p0 = some 9 then (Option.bind (f_X9_starts Λ d p0) fun z4 => Option.bind (f_X9_skillsBehind Λ z4 p0 v1) fun z5 => Option.bind (f_X9_startsJudging Λ z5.2 p0 z5.1) fun z6 => f_X9_swap_L31 Λ p0 v1 v2 FU (0 : Int32) z6) else none))
set_option maxHeartbeats 4000000 in
set_option maxRecDepth 100000 in
theorem w_X9_swap_L47 {p : Program} {l : Launch} {e : Env} {s : State} {m : MethodId} {args : Array Value} {below : List Frame} {meth : Method} {c : Code} {Γ : Cx} {Λ : List Ly} {z : Int32 × Dt} (C0 : Ct Γ p s m args c cX9_swap 6 "SeasonBoundModel") (hr : meth.sig.returnType = (some FieldType.int)) (hlocks : meth.locks = false) (k132 : Int32 → Dt → Option (Int32 × Dt)) (p0 : Nat) (v1 : Int32) (v2 : Int32) (v3 : Int32)
    (hk132 : ∀ (v4 : Int32) (d : Dt), (k132 v4 d = some z) → ∀ (H : Heap) (locs : List Loc) (ls : Array Slot), Hs Γ Λ d s H locs → lv_has ls 6 [(0, .ref (ad Γ.2.2.1 p0)), (1, .int v1), (2, .int v2), (3, .int v3), (4, .int v4)] → W p l e { frames := 7, cells := 0, slots := 0, locals := 152 } s m args below meth c H locs 0 0 (MQ below (QN Γ Λ z.2 (some (.int z.1))) args s 0 0 (AP Γ)) (F0 m 132 ls [])) :
    ∀ (n : Nat) (v4 : Int32) (d : Dt), f_X9_swap_L47 Λ p0 v1 v2 v3 k132 n v4 d = some z → ∀ (H : Heap) (locs : List Loc) (ls : Array Slot), Hs Γ Λ d s H locs → lv_has ls 6 [(0, .ref (ad Γ.2.2.1 p0)), (1, .int v1), (2, .int v2), (3, .int v3), (4, .int v4)] → W p l e { frames := 7, cells := 0, slots := 0, locals := 152 } s m args below meth c H locs 0 0 (MQ below (QN Γ Λ z.2 (some (.int z.1))) args s 0 0 (AP Γ)) (F0 m 47 ls []) := by
  obtain ⟨hx, hb, hml, hown, hts, hK⟩ := id C0
  intro n
  induction n with
  | zero =>
    intro v4 d hf
    cases hf
  | succ n ih =>
    intro v4 d hf H locs ls hH hl
    unfold f_X9_swap_L47 at hf
    refine lv_iload hx hb dX9_swap_47 (lv_at hl 4 rfl) ?_
    refine lv_aload_n hx hb dX9_swap_49 rfl (lv_at hl 0 rfl) ?_
    obtain ⟨q12, g12, hf⟩ := ob hf
    refine r_getr C0 hH fl_X9_7 g12 dX9_swap_50 ?_
    refine lv_bipush (v := (37 : Int32)) hx hb dX9_swap_53 (by decide) ?_
    obtain ⟨g13, hf⟩ := gd hf
    refine r_iald C0 hH g13 dX9_swap_55 ?_
    refine lv_icmp_ge (tgt := 132) hx hb dX9_swap_56 (by decide) (fun c14 => ?_) (fun c14 => ?_)
    · replace hf := it hf c14
      exact hk132 v4 d hf _ _ _ hH (lv_sub hl [0, 1, 2, 3, 4] rfl)
    · replace hf := ie hf c14
      refine lv_aload_n hx hb dX9_swap_59 rfl (lv_at hl 0 rfl) ?_
      refine lv_iload_n hx hb dX9_swap_60 rfl (lv_at hl 3 rfl) ?_
      obtain ⟨g15, hf⟩ := gd hf
      obtain ⟨z16, h16, hf⟩ := ob hf
      refine r_callVi (rest := []) C0 hH (c_X9_isBound Γ l Λ d p0 v3 z16 h16) cv_X9_199 g15 (by decide) rfl hl.1 rfl (Nat.le_of_ble_eq_true rfl) dX9_swap_61 (by decide) (fun H locs hH => ?_)
      refine lv_if_eq (tgt := 126) hx hb dX9_swap_64 (by decide) (fun c17 => ?_) (fun c17 => ?_)
      · replace hf := it hf c17
        refine lv_iinc (v := (v4 + (1 : Int32))) (lv' := [(4, .int (v4 + (1 : Int32))), (0, .ref (ad Γ.2.2.1 p0)), (1, .int v1), (2, .int v2), (3, .int v3)]) hx hb dX9_swap_126 hl (k := 4) rfl (congrArg (fun w => v4 + w) (by decide)) (by decide) rfl (fun ls hl => ?_)
        refine lv_goto (tgt := 47) hx hb dX9_swap_129 (by decide) ?_
        exact ih (v4 + (1 : Int32)) d hf _ _ _ hH (lv_sub hl [1, 2, 3, 4, 0] rfl)
      · replace hf := ie hf c17
        refine lv_aload_n hx hb dX9_swap_67 rfl (lv_at hl 0 rfl) ?_
        refine lv_iload hx hb dX9_swap_68 (lv_at hl 4 rfl) ?_
        obtain ⟨z18, h18, hf⟩ := ob hf
        refine r_callVi (rest := []) C0 hH (c_X9_isBound Γ l Λ d p0 v4 z18 h18) cv_X9_199 g15 (by decide) rfl hl.1 rfl (Nat.le_of_ble_eq_true rfl) dX9_swap_70 (by decide) (fun H locs hH => ?_)
        refine lv_if_eq (tgt := 126) hx hb dX9_swap_73 (by decide) (fun c19 => ?_) (fun c19 => ?_)
        · replace hf := it hf c19
          refine lv_iinc (v := (v4 + (1 : Int32))) (lv' := [(4, .int (v4 + (1 : Int32))), (0, .ref (ad Γ.2.2.1 p0)), (1, .int v1), (2, .int v2), (3, .int v3)]) hx hb dX9_swap_126 hl (k := 4) rfl (congrArg (fun w => v4 + w) (by decide)) (by decide) rfl (fun ls hl => ?_)
          refine lv_goto (tgt := 47) hx hb dX9_swap_129 (by decide) ?_
          exact ih (v4 + (1 : Int32)) d hf _ _ _ hH (lv_sub hl [1, 2, 3, 4, 0] rfl)
        · replace hf := ie hf c19
          refine lv_aload_n hx hb dX9_swap_76 rfl (lv_at hl 0 rfl) ?_
          obtain ⟨z20, h20, hf⟩ := ob hf
          refine r_callVv (rest := []) C0 hH (c_X9_starts Γ l Λ d p0 z20 h20) cv_X9_177 g15 (by decide) rfl hl.1 rfl (Nat.le_of_ble_eq_true rfl) dX9_swap_77 (by decide) (fun H locs hH => ?_)
          refine lv_aload_n hx hb dX9_swap_80 rfl (lv_at hl 0 rfl) ?_
          refine lv_iload_n hx hb dX9_swap_81 rfl (lv_at hl 3 rfl) ?_
          refine lv_iconst (v := (1 : Int32)) hx hb dX9_swap_82 (by decide) ?_
          obtain ⟨z21, h21, hf⟩ := ob hf
          refine r_callVi (rest := []) C0 hH (c_X9_of Γ l Λ z20 p0 v3 (1 : Int32) z21 h21) cv_X9_136 g15 (by decide) rfl hl.1 rfl (Nat.le_of_ble_eq_true rfl) dX9_swap_83 (by decide) (fun H locs hH => ?_)
          refine lv_istore (lv' := [(5, .int z21), (0, .ref (ad Γ.2.2.1 p0)), (1, .int v1), (2, .int v2), (3, .int v3), (4, .int v4)]) hx hb dX9_swap_86 hl (by decide) rfl (fun ls hl => ?_)
          refine lv_aload_n hx hb dX9_swap_88 rfl (lv_at hl 1 rfl) ?_
          refine lv_iload_n hx hb dX9_swap_89 rfl (lv_at hl 4 rfl) ?_
          refine lv_iconst (v := (1 : Int32)) hx hb dX9_swap_90 (by decide) ?_
          refine lv_aload_n hx hb dX9_swap_91 rfl (lv_at hl 1 rfl) ?_
          refine lv_iload hx hb dX9_swap_92 (lv_at hl 5 rfl) ?_
          refine lv_iconst (v := (1 : Int32)) hx hb dX9_swap_94 (by decide) ?_
          obtain ⟨z22, h22, hf⟩ := ob hf
          refine r_callVi (rest := [.int (1 : Int32), .int v3, .ref (ad Γ.2.2.1 p0)]) C0 hH (c_X9_of Γ l Λ z20 p0 v4 (1 : Int32) z22 h22) cv_X9_136 g15 (by decide) rfl hl.1 rfl (Nat.le_of_ble_eq_true rfl) dX9_swap_95 (by decide) (fun H locs hH => ?_)
          obtain ⟨z23, h23, hf⟩ := ob hf
          refine r_callVv (rest := []) C0 hH (c_X9_becomesOf Γ l Λ z20 p0 v3 (1 : Int32) z22 z23 h23) cv_X9_153 g15 (by decide) rfl hl.1 rfl (Nat.le_of_ble_eq_true rfl) dX9_swap_98 (by decide) (fun H locs hH => ?_)
          refine lv_aload_n hx hb dX9_swap_101 rfl (lv_at hl 1 rfl) ?_
          refine lv_iload hx hb dX9_swap_102 (lv_at hl 5 rfl) ?_
          refine lv_iconst (v := (1 : Int32)) hx hb dX9_swap_104 (by decide) ?_
          refine lv_iload hx hb dX9_swap_105 (lv_at hl 0 rfl) ?_
          obtain ⟨z24, h24, hf⟩ := ob hf
          refine r_callVv (rest := []) C0 hH (c_X9_becomesOf Γ l Λ z23 p0 v4 (1 : Int32) z21 z24 h24) cv_X9_153 g15 (by decide) rfl hl.1 rfl (Nat.le_of_ble_eq_true rfl) dX9_swap_107 (by decide) (fun H locs hH => ?_)
          refine lv_aload_n hx hb dX9_swap_110 rfl (lv_at hl 1 rfl) ?_
          refine lv_bipush (v := (10 : Int32)) hx hb dX9_swap_111 (by decide) ?_
          refine lv_iload_n hx hb dX9_swap_113 rfl (lv_at hl 4 rfl) ?_
          refine lv_imul hx hb dX9_swap_114 ?_
          refine lv_iload hx hb dX9_swap_115 (lv_at hl 5 rfl) ?_
          refine lv_iadd hx hb dX9_swap_117 ?_
          refine lv_aload_n hx hb dX9_swap_118 rfl (lv_at hl 1 rfl) ?_
          refine lv_iload_n hx hb dX9_swap_119 rfl (lv_at hl 2 rfl) ?_
          obtain ⟨z25, h25, hf⟩ := ob hf
          refine r_callVi (rest := [.int (((10 : Int32) * v3) + v4), .ref (ad Γ.2.2.1 p0)]) C0 hH (c_X9_skillsBehind Γ l Λ z24 p0 v1 z25 h25) cv_X9_204 g15 (by decide) rfl hl.1 rfl (Nat.le_of_ble_eq_true rfl) dX9_swap_120 (by decide) (fun H locs hH => ?_)
          obtain ⟨z26, h26, hf⟩ := ob hf
          refine r_callVv (rest := []) C0 hH (c_X9_judges Γ l Λ z25.2 p0 (((10 : Int32) * v3) + v4) z25.1 z26 h26) cv_X9_234 g15 (by decide) rfl hl.1 rfl (Nat.le_of_ble_eq_true rfl) dX9_swap_123 (by decide) (fun H locs hH => ?_)
          refine lv_iinc (v := (v4 + (1 : Int32))) (lv' := [(4, .int (v4 + (1 : Int32))), (5, .int z21), (0, .ref (ad Γ.2.2.1 p0)), (1, .int v1), (2, .int v2), (3, .int v3)]) hx hb dX9_swap_126 hl (k := 5) rfl (congrArg (fun w => v4 + w) (by decide)) (by decide) rfl (fun ls hl => ?_)
          refine lv_goto (tgt := 47) hx hb dX9_swap_129 (by decide) ?_
          exact ih (v4 + (1 : Int32)) z26 hf _ _ _ hH (lv_sub hl [2, 3, 4, 5, 0] rfl)
set_option maxHeartbeats 4000000 in
set_option maxRecDepth 100000 in
theorem w_X9_swap_L31 {p : Program} {l : Launch} {e : Env} {s : State} {m : MethodId} {args : Array Value} {below : List Frame} {meth : Method} {c : Code} {Γ : Cx} {Λ : List Ly} {z : Int32 × Dt} (C0 : Ct Γ p s m args c cX9_swap 6 "SeasonBoundModel") (hr : meth.sig.returnType = (some FieldType.int)) (hlocks : meth.locks = false) (p0 : Nat) (v1 : Int32) (v2 : Int32) :
    ∀ (n : Nat) (v3 : Int32) (d : Dt), f_X9_swap_L31 Λ p0 v1 v2 n v3 d = some z → ∀ (H : Heap) (locs : List Loc) (ls : Array Slot), Hs Γ Λ d s H locs → lv_has ls 6 [(0, .ref (ad Γ.2.2.1 p0)), (1, .int v1), (2, .int v2), (3, .int v3)] → W p l e { frames := 7, cells := 0, slots := 0, locals := 152 } s m args below meth c H locs 0 0 (MQ below (QN Γ Λ z.2 (some (.int z.1))) args s 0 0 (AP Γ)) (F0 m 31 ls []) := by
  obtain ⟨hx, hb, hml, hown, hts, hK⟩ := id C0
  intro n
  induction n with
  | zero =>
    intro v3 d hf
    cases hf
  | succ n ih =>
    intro v3 d hf H locs ls hH hl
    unfold f_X9_swap_L31 at hf
    refine lv_iload_n hx hb dX9_swap_31 rfl (lv_at hl 3 rfl) ?_
    refine lv_aload_n hx hb dX9_swap_32 rfl (lv_at hl 0 rfl) ?_
    obtain ⟨q7, g7, hf⟩ := ob hf
    refine r_getr C0 hH fl_X9_7 g7 dX9_swap_33 ?_
    refine lv_bipush (v := (37 : Int32)) hx hb dX9_swap_36 (by decide) ?_
    obtain ⟨g8, hf⟩ := gd hf
    refine r_iald C0 hH g8 dX9_swap_38 ?_
    refine lv_icmp_ge (tgt := 138) hx hb dX9_swap_39 (by decide) (fun c9 => ?_) (fun c9 => ?_)
    · replace hf := it hf c9
      refine lv_aload_n hx hb dX9_swap_138 rfl (lv_at hl 0 rfl) ?_
      refine lv_iload_n hx hb dX9_swap_139 rfl (lv_at hl 2 rfl) ?_
      obtain ⟨g10, hf⟩ := gd hf
      obtain ⟨z11, h11, hf⟩ := ob hf
      refine r_callVi (rest := []) C0 hH (c_X9_judged Γ l Λ d p0 v2 z11 h11) cv_X9_238 g10 (by decide) rfl hl.1 rfl (Nat.le_of_ble_eq_true rfl) dX9_swap_140 (by decide) (fun H locs hH => ?_)
      obtain rfl := Option.some.inj hf
      exact r_iret (d' := d) C0 hr hlocks hH rfl dX9_swap_143
    · replace hf := ie hf c9
      refine lv_iload_n hx hb dX9_swap_42 rfl (lv_at hl 3 rfl) ?_
      refine lv_iconst (v := (1 : Int32)) hx hb dX9_swap_43 (by decide) ?_
      refine lv_iadd hx hb dX9_swap_44 ?_
      refine lv_istore (lv' := [(4, .int (v3 + (1 : Int32))), (0, .ref (ad Γ.2.2.1 p0)), (1, .int v1), (2, .int v2), (3, .int v3)]) hx hb dX9_swap_45 hl (by decide) rfl (fun ls hl => ?_)
      refine w_X9_swap_L47 C0 hr hlocks _ p0 v1 v2 v3 ?k132 FU (v3 + (1 : Int32)) d hf _ _ _ hH (lv_sub hl [1, 2, 3, 4, 0] rfl)
      case k132 =>
        intro x27_4 d27 hf H locs ls hH hl
        refine lv_iinc (v := (v3 + (1 : Int32))) (lv' := [(3, .int (v3 + (1 : Int32))), (0, .ref (ad Γ.2.2.1 p0)), (1, .int v1), (2, .int v2), (4, .int x27_4)]) hx hb dX9_swap_132 hl (k := 3) rfl (congrArg (fun w => v3 + w) (by decide)) (by decide) rfl (fun ls hl => ?_)
        refine lv_goto (tgt := 31) hx hb dX9_swap_135 (by decide) ?_
        exact ih (v3 + (1 : Int32)) d27 hf _ _ _ hH (lv_sub hl [1, 2, 3, 0] rfl)
set_option maxHeartbeats 4000000 in
set_option maxRecDepth 100000 in
theorem c_X9_swap (Γ : Cx) (l : Launch) (Λ : List Ly) (d : Dt) (p0 : Nat) (v1 : Int32) (v2 : Int32) (z : Int32 × Dt) (hf : f_X9_swap Λ d p0 v1 v2 = some z) : Cn Γ l yX9_swap cX9_swap 6 (some FieldType.int) 7 152 [.ref (ad Γ.2.2.1 p0), .int v1, .int v2] Λ d (some (.int z.1)) z.2 := by
  refine Cn.of (own := "SeasonBoundModel") (by decide +kernel) rfl (Nat.le_of_ble_eq_true rfl) ?_
  intro p e s m below meth c C0 hr hlocks hH ls hl
  have hl : lv_has ls 6 [(0, .ref (ad Γ.2.2.1 p0)), (1, .int v1), (2, .int v2)] := hl
  obtain ⟨hx, hb, hml, hown, hts, hK⟩ := id C0
  unfold f_X9_swap at hf
  refine lv_iload_n hx hb dX9_swap_0 rfl (lv_at hl 1 rfl) ?_
  refine r_callSi (rest := []) C0 hH (c_X9_isFar Γ l Λ d v1) cs_X9_212 (by decide) rfl hl.1 rfl (Nat.le_of_ble_eq_true rfl) dX9_swap_1 (by decide) (fun H locs hH => ?_)
  refine lv_if_eq (tgt := 14) hx hb dX9_swap_4 (by decide) (fun c1 => ?_) (fun c1 => ?_)
  · replace hf := it hf c1
    refine lv_iconst (v := (-1 : Int32)) hx hb dX9_swap_14 (by decide) ?_
    obtain rfl := Option.some.inj hf
    exact r_iret (d' := d) C0 hr hlocks hH rfl dX9_swap_15
  · replace hf := ie hf c1
    refine lv_iload_n hx hb dX9_swap_7 rfl (lv_at hl 2 rfl) ?_
    refine r_callSi (rest := []) C0 hH (c_X9_isPart Γ l Λ d v2) cs_X9_228 (by decide) rfl hl.1 rfl (Nat.le_of_ble_eq_true rfl) dX9_swap_8 (by decide) (fun H locs hH => ?_)
    refine lv_if_ne (tgt := 16) hx hb dX9_swap_11 (by decide) (fun c2 => ?_) (fun c2 => ?_)
    · replace hf := ie hf c2
      refine lv_aload_n hx hb dX9_swap_16 rfl (lv_at hl 0 rfl) ?_
      obtain ⟨g3, hf⟩ := gd hf
      obtain ⟨z4, h4, hf⟩ := ob hf
      refine r_callVv (rest := []) C0 hH (c_X9_starts Γ l Λ d p0 z4 h4) cv_X9_177 g3 (by decide) rfl hl.1 rfl (Nat.le_of_ble_eq_true rfl) dX9_swap_17 (by decide) (fun H locs hH => ?_)
      refine lv_aload_n hx hb dX9_swap_20 rfl (lv_at hl 0 rfl) ?_
      refine lv_aload_n hx hb dX9_swap_21 rfl (lv_at hl 0 rfl) ?_
      refine lv_iload_n hx hb dX9_swap_22 rfl (lv_at hl 1 rfl) ?_
      obtain ⟨z5, h5, hf⟩ := ob hf
      refine r_callVi (rest := [.ref (ad Γ.2.2.1 p0)]) C0 hH (c_X9_skillsBehind Γ l Λ z4 p0 v1 z5 h5) cv_X9_204 g3 (by decide) rfl hl.1 rfl (Nat.le_of_ble_eq_true rfl) dX9_swap_23 (by decide) (fun H locs hH => ?_)
      obtain ⟨z6, h6, hf⟩ := ob hf
      refine r_callVv (rest := []) C0 hH (c_X9_startsJudging Γ l Λ z5.2 p0 z5.1 z6 h6) cv_X9_231 g3 (by decide) rfl hl.1 rfl (Nat.le_of_ble_eq_true rfl) dX9_swap_26 (by decide) (fun H locs hH => ?_)
      refine lv_iconst (v := (0 : Int32)) hx hb dX9_swap_29 (by decide) ?_
      refine lv_istore_n (lv' := [(3, .int (0 : Int32)), (0, .ref (ad Γ.2.2.1 p0)), (1, .int v1), (2, .int v2)]) hx hb dX9_swap_30 rfl hl (by decide) rfl (fun ls hl => ?_)
      refine w_X9_swap_L31 C0 hr hlocks p0 v1 v2 FU (0 : Int32) z6 hf _ _ _ hH (lv_sub hl [1, 2, 3, 0] rfl)
    · replace hf := it hf c2
      refine lv_iconst (v := (-1 : Int32)) hx hb dX9_swap_14 (by decide) ?_
      obtain rfl := Option.some.inj hf
      exact r_iret (d' := d) C0 hr hlocks hH rfl dX9_swap_15
theorem dX9_span_0 : decode cX9_span 0 = .ok (.iload_n 1, 1) := by decide +kernel
theorem dX9_span_1 : decode cX9_span 1 = .ok (.invokestatic 185, 3) := by decide +kernel
theorem dX9_span_4 : decode cX9_span 4 = .ok (.ifCond .eq 17, 3) := by decide +kernel
theorem dX9_span_7 : decode cX9_span 7 = .ok (.iload_n 2, 1) := by decide +kernel
theorem dX9_span_8 : decode cX9_span 8 = .ok (.invokestatic 212, 3) := by decide +kernel
theorem dX9_span_11 : decode cX9_span 11 = .ok (.ifCond .eq 10, 3) := by decide +kernel
theorem dX9_span_14 : decode cX9_span 14 = .ok (.iload_n 3, 1) := by decide +kernel
theorem dX9_span_15 : decode cX9_span 15 = .ok (.invokestatic 228, 3) := by decide +kernel
theorem dX9_span_18 : decode cX9_span 18 = .ok (.ifCond .ne 5, 3) := by decide +kernel
theorem dX9_span_21 : decode cX9_span 21 = .ok (.iconst (-1), 1) := by decide +kernel
theorem dX9_span_22 : decode cX9_span 22 = .ok (.ireturn, 1) := by decide +kernel
theorem dX9_span_23 : decode cX9_span 23 = .ok (.aload_n 0, 1) := by decide +kernel
theorem dX9_span_24 : decode cX9_span 24 = .ok (.iconst (-1), 1) := by decide +kernel
theorem dX9_span_25 : decode cX9_span 25 = .ok (.invokevirtual 231, 3) := by decide +kernel
theorem dX9_span_28 : decode cX9_span 28 = .ok (.iconst 1, 1) := by decide +kernel
theorem dX9_span_29 : decode cX9_span 29 = .ok (.istore 4, 2) := by decide +kernel
theorem dX9_span_31 : decode cX9_span 31 = .ok (.iload 4, 2) := by decide +kernel
theorem dX9_span_33 : decode cX9_span 33 = .ok (.bipush 9, 2) := by decide +kernel
theorem dX9_span_35 : decode cX9_span 35 = .ok (.if_icmp .gt 36, 3) := by decide +kernel
theorem dX9_span_38 : decode cX9_span 38 = .ok (.aload_n 0, 1) := by decide +kernel
theorem dX9_span_39 : decode cX9_span 39 = .ok (.invokevirtual 177, 3) := by decide +kernel
theorem dX9_span_42 : decode cX9_span 42 = .ok (.aload_n 0, 1) := by decide +kernel
theorem dX9_span_43 : decode cX9_span 43 = .ok (.getfield 13, 3) := by decide +kernel
theorem dX9_span_46 : decode cX9_span 46 = .ok (.iconst 3, 1) := by decide +kernel
theorem dX9_span_47 : decode cX9_span 47 = .ok (.iload_n 1, 1) := by decide +kernel
theorem dX9_span_48 : decode cX9_span 48 = .ok (.imul, 1) := by decide +kernel
theorem dX9_span_49 : decode cX9_span 49 = .ok (.iconst 0, 1) := by decide +kernel
theorem dX9_span_50 : decode cX9_span 50 = .ok (.iadd, 1) := by decide +kernel
theorem dX9_span_51 : decode cX9_span 51 = .ok (.iload 4, 2) := by decide +kernel
theorem dX9_span_53 : decode cX9_span 53 = .ok (.iastore, 1) := by decide +kernel
theorem dX9_span_54 : decode cX9_span 54 = .ok (.aload_n 0, 1) := by decide +kernel
theorem dX9_span_55 : decode cX9_span 55 = .ok (.iload 4, 2) := by decide +kernel
theorem dX9_span_57 : decode cX9_span 57 = .ok (.aload_n 0, 1) := by decide +kernel
theorem dX9_span_58 : decode cX9_span 58 = .ok (.iload_n 2, 1) := by decide +kernel
theorem dX9_span_59 : decode cX9_span 59 = .ok (.invokevirtual 204, 3) := by decide +kernel
theorem dX9_span_62 : decode cX9_span 62 = .ok (.invokevirtual 234, 3) := by decide +kernel
theorem dX9_span_65 : decode cX9_span 65 = .ok (.iinc 4 1, 3) := by decide +kernel
theorem dX9_span_68 : decode cX9_span 68 = .ok (.goto (-37), 3) := by decide +kernel
theorem dX9_span_71 : decode cX9_span 71 = .ok (.aload_n 0, 1) := by decide +kernel
theorem dX9_span_72 : decode cX9_span 72 = .ok (.iload_n 3, 1) := by decide +kernel
theorem dX9_span_73 : decode cX9_span 73 = .ok (.invokevirtual 238, 3) := by decide +kernel
theorem dX9_span_76 : decode cX9_span 76 = .ok (.ireturn, 1) := by decide +kernel
def f_X9_span_L31 (Λ : List Ly) (p0 : Nat) (v1 : Int32) (v2 : Int32) (v3 : Int32) : Nat → Int32 → Dt → Option (Int32 × Dt)
  | 0, _, _ => none
  | n + 1, v4, d => if (9 : Int32) < v4 then (if clsAt Λ p0 = some 9 then (Option.bind (f_X9_judged Λ d p0 v3) fun z8 => some (z8, d)) else none) else (if clsAt Λ p0 = some 9 then (Option.bind (f_X9_starts Λ d p0) fun z10 => Option.bind (rf Λ p0 9 1) fun q11 => if okA Λ q11 1 (((3 : Int32) * v1) + (0 : Int32)) = true then (Option.bind (f_X9_skillsBehind Λ (pI z10 q11 ((((3 : Int32) * v1) + (0 : Int32))).toNatClampNeg v4) p0 v2) fun z13 => Option.bind (f_X9_judges Λ z13.2 p0 v4 z13.1) fun z14 => f_X9_span_L31 Λ p0 v1 v2 v3 n (v4 + (1 : Int32)) z14) else none) else none)
def f_X9_span (Λ : List Ly) (d : Dt) (p0 : Nat) (v1 : Int32) (v2 : Int32) (v3 : Int32) : Option (Int32 × Dt) := if (f_X9_isSeason v1) = 0 then (some ((-1 : Int32), d)) else (if (f_X9_isFar v2) = 0 then (some ((-1 : Int32), d)) else (if (f_X9_isPart v3) = 0 then (some ((-1 : Int32), d)) else (if clsAt Λ p0 = some 9 then (Option.bind (f_X9_startsJudging Λ d p0 (-1 : Int32)) fun z5 => f_X9_span_L31 Λ p0 v1 v2 v3 FU (1 : Int32) z5) else none)))
set_option maxHeartbeats 4000000 in
set_option maxRecDepth 100000 in
theorem w_X9_span_L31 {p : Program} {l : Launch} {e : Env} {s : State} {m : MethodId} {args : Array Value} {below : List Frame} {meth : Method} {c : Code} {Γ : Cx} {Λ : List Ly} {z : Int32 × Dt} (C0 : Ct Γ p s m args c cX9_span 5 "SeasonBoundModel") (hr : meth.sig.returnType = (some FieldType.int)) (hlocks : meth.locks = false) (p0 : Nat) (v1 : Int32) (v2 : Int32) (v3 : Int32) :
    ∀ (n : Nat) (v4 : Int32) (d : Dt), f_X9_span_L31 Λ p0 v1 v2 v3 n v4 d = some z → ∀ (H : Heap) (locs : List Loc) (ls : Array Slot), Hs Γ Λ d s H locs → lv_has ls 5 [(0, .ref (ad Γ.2.2.1 p0)), (1, .int v1), (2, .int v2), (3, .int v3), (4, .int v4)] → W p l e { frames := 7, cells := 0, slots := 0, locals := 152 } s m args below meth c H locs 0 0 (MQ below (QN Γ Λ z.2 (some (.int z.1))) args s 0 0 (AP Γ)) (F0 m 31 ls []) := by
  obtain ⟨hx, hb, hml, hown, hts, hK⟩ := id C0
  intro n
  induction n with
  | zero =>
    intro v4 d hf
    cases hf
  | succ n ih =>
    intro v4 d hf H locs ls hH hl
    unfold f_X9_span_L31 at hf
    refine lv_iload hx hb dX9_span_31 (lv_at hl 4 rfl) ?_
    refine lv_bipush (v := (9 : Int32)) hx hb dX9_span_33 (by decide) ?_
    refine lv_icmp_gt (tgt := 71) hx hb dX9_span_35 (by decide) (fun c6 => ?_) (fun c6 => ?_)
    · replace hf := it hf c6
      refine lv_aload_n hx hb dX9_span_71 rfl (lv_at hl 0 rfl) ?_
      refine lv_iload_n hx hb dX9_span_72 rfl (lv_at hl 3 rfl) ?_
      obtain ⟨g7, hf⟩ := gd hf
      obtain ⟨z8, h8, hf⟩ := ob hf
      refine r_callVi (rest := []) C0 hH (c_X9_judged Γ l Λ d p0 v3 z8 h8) cv_X9_238 g7 (by decide) rfl hl.1 rfl (Nat.le_of_ble_eq_true rfl) dX9_span_73 (by decide) (fun H locs hH => ?_)
      obtain rfl := Option.some.inj hf
      exact r_iret (d' := d) C0 hr hlocks hH rfl dX9_span_76
    · replace hf := ie hf c6
      refine lv_aload_n hx hb dX9_span_38 rfl (lv_at hl 0 rfl) ?_
      obtain ⟨g9, hf⟩ := gd hf
      obtain ⟨z10, h10, hf⟩ := ob hf
      refine r_callVv (rest := []) C0 hH (c_X9_starts Γ l Λ d p0 z10 h10) cv_X9_177 g9 (by decide) rfl hl.1 rfl (Nat.le_of_ble_eq_true rfl) dX9_span_39 (by decide) (fun H locs hH => ?_)
      refine lv_aload_n hx hb dX9_span_42 rfl (lv_at hl 0 rfl) ?_
      obtain ⟨q11, g11, hf⟩ := ob hf
      refine r_getr C0 hH fl_X9_13 g11 dX9_span_43 ?_
      refine lv_iconst (v := (3 : Int32)) hx hb dX9_span_46 (by decide) ?_
      refine lv_iload_n hx hb dX9_span_47 rfl (lv_at hl 1 rfl) ?_
      refine lv_imul hx hb dX9_span_48 ?_
      refine lv_iconst (v := (0 : Int32)) hx hb dX9_span_49 (by decide) ?_
      refine lv_iadd hx hb dX9_span_50 ?_
      refine lv_iload hx hb dX9_span_51 (lv_at hl 4 rfl) ?_
      obtain ⟨g12, hf⟩ := gd hf
      refine r_iast C0 hH g12 dX9_span_53 (fun H locs hH => ?_)
      refine lv_aload_n hx hb dX9_span_54 rfl (lv_at hl 0 rfl) ?_
      refine lv_iload hx hb dX9_span_55 (lv_at hl 4 rfl) ?_
      refine lv_aload_n hx hb dX9_span_57 rfl (lv_at hl 0 rfl) ?_
      refine lv_iload_n hx hb dX9_span_58 rfl (lv_at hl 2 rfl) ?_
      obtain ⟨z13, h13, hf⟩ := ob hf
      refine r_callVi (rest := [.int v4, .ref (ad Γ.2.2.1 p0)]) C0 hH (c_X9_skillsBehind Γ l Λ (pI z10 q11 ((((3 : Int32) * v1) + (0 : Int32))).toNatClampNeg v4) p0 v2 z13 h13) cv_X9_204 g9 (by decide) rfl hl.1 rfl (Nat.le_of_ble_eq_true rfl) dX9_span_59 (by decide) (fun H locs hH => ?_)
      obtain ⟨z14, h14, hf⟩ := ob hf
      refine r_callVv (rest := []) C0 hH (c_X9_judges Γ l Λ z13.2 p0 v4 z13.1 z14 h14) cv_X9_234 g9 (by decide) rfl hl.1 rfl (Nat.le_of_ble_eq_true rfl) dX9_span_62 (by decide) (fun H locs hH => ?_)
      refine lv_iinc (v := (v4 + (1 : Int32))) (lv' := [(4, .int (v4 + (1 : Int32))), (0, .ref (ad Γ.2.2.1 p0)), (1, .int v1), (2, .int v2), (3, .int v3)]) hx hb dX9_span_65 hl (k := 4) rfl (congrArg (fun w => v4 + w) (by decide)) (by decide) rfl (fun ls hl => ?_)
      refine lv_goto (tgt := 31) hx hb dX9_span_68 (by decide) ?_
      exact ih (v4 + (1 : Int32)) z14 hf _ _ _ hH (lv_sub hl [1, 2, 3, 4, 0] rfl)
set_option maxHeartbeats 4000000 in
set_option maxRecDepth 100000 in
theorem c_X9_span (Γ : Cx) (l : Launch) (Λ : List Ly) (d : Dt) (p0 : Nat) (v1 : Int32) (v2 : Int32) (v3 : Int32) (z : Int32 × Dt) (hf : f_X9_span Λ d p0 v1 v2 v3 = some z) : Cn Γ l yX9_span cX9_span 5 (some FieldType.int) 7 152 [.ref (ad Γ.2.2.1 p0), .int v1, .int v2, .int v3] Λ d (some (.int z.1)) z.2 := by
  refine Cn.of (own := "SeasonBoundModel") (by decide +kernel) rfl (Nat.le_of_ble_eq_true rfl) ?_
  intro p e s m below meth c C0 hr hlocks hH ls hl
  have hl : lv_has ls 5 [(0, .ref (ad Γ.2.2.1 p0)), (1, .int v1), (2, .int v2), (3, .int v3)] := hl
  obtain ⟨hx, hb, hml, hown, hts, hK⟩ := id C0
  unfold f_X9_span at hf
  refine lv_iload_n hx hb dX9_span_0 rfl (lv_at hl 1 rfl) ?_
  refine r_callSi (rest := []) C0 hH (c_X9_isSeason Γ l Λ d v1) cs_X9_185 (by decide) rfl hl.1 rfl (Nat.le_of_ble_eq_true rfl) dX9_span_1 (by decide) (fun H locs hH => ?_)
  refine lv_if_eq (tgt := 21) hx hb dX9_span_4 (by decide) (fun c1 => ?_) (fun c1 => ?_)
  · replace hf := it hf c1
    refine lv_iconst (v := (-1 : Int32)) hx hb dX9_span_21 (by decide) ?_
    obtain rfl := Option.some.inj hf
    exact r_iret (d' := d) C0 hr hlocks hH rfl dX9_span_22
  · replace hf := ie hf c1
    refine lv_iload_n hx hb dX9_span_7 rfl (lv_at hl 2 rfl) ?_
    refine r_callSi (rest := []) C0 hH (c_X9_isFar Γ l Λ d v2) cs_X9_212 (by decide) rfl hl.1 rfl (Nat.le_of_ble_eq_true rfl) dX9_span_8 (by decide) (fun H locs hH => ?_)
    refine lv_if_eq (tgt := 21) hx hb dX9_span_11 (by decide) (fun c2 => ?_) (fun c2 => ?_)
    · replace hf := it hf c2
      refine lv_iconst (v := (-1 : Int32)) hx hb dX9_span_21 (by decide) ?_
      obtain rfl := Option.some.inj hf
      exact r_iret (d' := d) C0 hr hlocks hH rfl dX9_span_22
    · replace hf := ie hf c2
      refine lv_iload_n hx hb dX9_span_14 rfl (lv_at hl 3 rfl) ?_
      refine r_callSi (rest := []) C0 hH (c_X9_isPart Γ l Λ d v3) cs_X9_228 (by decide) rfl hl.1 rfl (Nat.le_of_ble_eq_true rfl) dX9_span_15 (by decide) (fun H locs hH => ?_)
      refine lv_if_ne (tgt := 23) hx hb dX9_span_18 (by decide) (fun c3 => ?_) (fun c3 => ?_)
      · replace hf := ie hf c3
        refine lv_aload_n hx hb dX9_span_23 rfl (lv_at hl 0 rfl) ?_
        refine lv_iconst (v := (-1 : Int32)) hx hb dX9_span_24 (by decide) ?_
        obtain ⟨g4, hf⟩ := gd hf
        obtain ⟨z5, h5, hf⟩ := ob hf
        refine r_callVv (rest := []) C0 hH (c_X9_startsJudging Γ l Λ d p0 (-1 : Int32) z5 h5) cv_X9_231 g4 (by decide) rfl hl.1 rfl (Nat.le_of_ble_eq_true rfl) dX9_span_25 (by decide) (fun H locs hH => ?_)
        refine lv_iconst (v := (1 : Int32)) hx hb dX9_span_28 (by decide) ?_
        refine lv_istore (lv' := [(4, .int (1 : Int32)), (0, .ref (ad Γ.2.2.1 p0)), (1, .int v1), (2, .int v2), (3, .int v3)]) hx hb dX9_span_29 hl (by decide) rfl (fun ls hl => ?_)
        refine w_X9_span_L31 C0 hr hlocks p0 v1 v2 v3 FU (1 : Int32) z5 hf _ _ _ hH (lv_sub hl [1, 2, 3, 4, 0] rfl)
      · replace hf := it hf c3
        refine lv_iconst (v := (-1 : Int32)) hx hb dX9_span_21 (by decide) ?_
        obtain rfl := Option.some.inj hf
        exact r_iret (d' := d) C0 hr hlocks hH rfl dX9_span_22
theorem dX9_gift_0 : decode cX9_gift 0 = .ok (.iload_n 1, 1) := by decide +kernel
theorem dX9_gift_1 : decode cX9_gift 1 = .ok (.invokestatic 212, 3) := by decide +kernel
theorem dX9_gift_4 : decode cX9_gift 4 = .ok (.ifCond .eq 10, 3) := by decide +kernel
theorem dX9_gift_7 : decode cX9_gift 7 = .ok (.iload_n 2, 1) := by decide +kernel
theorem dX9_gift_8 : decode cX9_gift 8 = .ok (.invokestatic 228, 3) := by decide +kernel
theorem dX9_gift_11 : decode cX9_gift 11 = .ok (.ifCond .ne 5, 3) := by decide +kernel
theorem dX9_gift_14 : decode cX9_gift 14 = .ok (.iconst (-1), 1) := by decide +kernel
theorem dX9_gift_15 : decode cX9_gift 15 = .ok (.ireturn, 1) := by decide +kernel
theorem dX9_gift_16 : decode cX9_gift 16 = .ok (.aload_n 0, 1) := by decide +kernel
theorem dX9_gift_17 : decode cX9_gift 17 = .ok (.invokevirtual 177, 3) := by decide +kernel
theorem dX9_gift_20 : decode cX9_gift 20 = .ok (.aload_n 0, 1) := by decide +kernel
theorem dX9_gift_21 : decode cX9_gift 21 = .ok (.aload_n 0, 1) := by decide +kernel
theorem dX9_gift_22 : decode cX9_gift 22 = .ok (.iload_n 1, 1) := by decide +kernel
theorem dX9_gift_23 : decode cX9_gift 23 = .ok (.invokevirtual 204, 3) := by decide +kernel
theorem dX9_gift_26 : decode cX9_gift 26 = .ok (.invokevirtual 231, 3) := by decide +kernel
theorem dX9_gift_29 : decode cX9_gift 29 = .ok (.iconst 0, 1) := by decide +kernel
theorem dX9_gift_30 : decode cX9_gift 30 = .ok (.istore_n 3, 1) := by decide +kernel
theorem dX9_gift_31 : decode cX9_gift 31 = .ok (.iload_n 3, 1) := by decide +kernel
theorem dX9_gift_32 : decode cX9_gift 32 = .ok (.iconst 4, 1) := by decide +kernel
theorem dX9_gift_33 : decode cX9_gift 33 = .ok (.if_icmp .ge 50, 3) := by decide +kernel
theorem dX9_gift_36 : decode cX9_gift 36 = .ok (.aload_n 0, 1) := by decide +kernel
theorem dX9_gift_37 : decode cX9_gift 37 = .ok (.invokevirtual 177, 3) := by decide +kernel
theorem dX9_gift_40 : decode cX9_gift 40 = .ok (.aload_n 0, 1) := by decide +kernel
theorem dX9_gift_41 : decode cX9_gift 41 = .ok (.getfield 13, 3) := by decide +kernel
theorem dX9_gift_44 : decode cX9_gift 44 = .ok (.iconst 3, 1) := by decide +kernel
theorem dX9_gift_45 : decode cX9_gift 45 = .ok (.iload_n 3, 1) := by decide +kernel
theorem dX9_gift_46 : decode cX9_gift 46 = .ok (.imul, 1) := by decide +kernel
theorem dX9_gift_47 : decode cX9_gift 47 = .ok (.iconst 1, 1) := by decide +kernel
theorem dX9_gift_48 : decode cX9_gift 48 = .ok (.iadd, 1) := by decide +kernel
theorem dX9_gift_49 : decode cX9_gift 49 = .ok (.bipush 9, 2) := by decide +kernel
theorem dX9_gift_51 : decode cX9_gift 51 = .ok (.aload_n 0, 1) := by decide +kernel
theorem dX9_gift_52 : decode cX9_gift 52 = .ok (.getfield 7, 3) := by decide +kernel
theorem dX9_gift_55 : decode cX9_gift 55 = .ok (.iconst 3, 1) := by decide +kernel
theorem dX9_gift_56 : decode cX9_gift 56 = .ok (.iload_n 3, 1) := by decide +kernel
theorem dX9_gift_57 : decode cX9_gift 57 = .ok (.imul, 1) := by decide +kernel
theorem dX9_gift_58 : decode cX9_gift 58 = .ok (.iconst 1, 1) := by decide +kernel
theorem dX9_gift_59 : decode cX9_gift 59 = .ok (.iadd, 1) := by decide +kernel
theorem dX9_gift_60 : decode cX9_gift 60 = .ok (.iaload, 1) := by decide +kernel
theorem dX9_gift_61 : decode cX9_gift 61 = .ok (.iconst 1, 1) := by decide +kernel
theorem dX9_gift_62 : decode cX9_gift 62 = .ok (.iadd, 1) := by decide +kernel
theorem dX9_gift_63 : decode cX9_gift 63 = .ok (.invokestatic 150, 3) := by decide +kernel
theorem dX9_gift_66 : decode cX9_gift 66 = .ok (.iastore, 1) := by decide +kernel
theorem dX9_gift_67 : decode cX9_gift 67 = .ok (.aload_n 0, 1) := by decide +kernel
theorem dX9_gift_68 : decode cX9_gift 68 = .ok (.iload_n 3, 1) := by decide +kernel
theorem dX9_gift_69 : decode cX9_gift 69 = .ok (.aload_n 0, 1) := by decide +kernel
theorem dX9_gift_70 : decode cX9_gift 70 = .ok (.iload_n 1, 1) := by decide +kernel
theorem dX9_gift_71 : decode cX9_gift 71 = .ok (.invokevirtual 204, 3) := by decide +kernel
theorem dX9_gift_74 : decode cX9_gift 74 = .ok (.invokevirtual 234, 3) := by decide +kernel
theorem dX9_gift_77 : decode cX9_gift 77 = .ok (.iinc 3 1, 3) := by decide +kernel
theorem dX9_gift_80 : decode cX9_gift 80 = .ok (.goto (-49), 3) := by decide +kernel
theorem dX9_gift_83 : decode cX9_gift 83 = .ok (.aload_n 0, 1) := by decide +kernel
theorem dX9_gift_84 : decode cX9_gift 84 = .ok (.iload_n 2, 1) := by decide +kernel
theorem dX9_gift_85 : decode cX9_gift 85 = .ok (.invokevirtual 238, 3) := by decide +kernel
theorem dX9_gift_88 : decode cX9_gift 88 = .ok (.ireturn, 1) := by decide +kernel
def f_X9_gift_L31 (Λ : List Ly) (p0 : Nat) (v1 : Int32) (v2 : Int32) : Nat → Int32 → Dt → Option (Int32 × Dt)
  | 0, _, _ => none
  | n + 1, v3, d => if (4 : Int32) ≤ v3 then (if clsAt Λ p0 = some 9 then (Option.bind (f_X9_judged Λ d p0 v2) fun z9 => some (z9, d)) else none) else (if clsAt Λ p0 = some 9 then (Option.bind (f_X9_starts Λ d p0) fun z11 => Option.bind (rf Λ p0 9 1) fun q12 => Option.bind (rf Λ p0 9 0) fun q13 => if okA Λ q13 1 (((3 : Int32) * v3) + (1 : Int32)) = true then (if okA Λ q12 1 (((3 : Int32) * v3) + (1 : Int32)) = true then (Option.bind (f_X9_skillsBehind Λ (pI z11 q12 ((((3 : Int32) * v3) + (1 : Int32))).toNatClampNeg (f_X9_lesser (9 : Int32) ((z11.1 q13 ((((3 : Int32) * v3) + (1 : Int32))).toNatClampNeg) + (1 : Int32)))) p0 v1) fun z16 => Option.bind (f_X9_judges Λ z16.2 p0 v3 z16.1) fun z17 => f_X9_gift_L31 Λ p0 v1 v2 n (v3 + (1 : Int32)) z17) else none) else none) else none)
def f_X9_gift (Λ : List Ly) (d : Dt) (p0 : Nat) (v1 : Int32) (v2 : Int32) : Option (Int32 × Dt) := if (f_X9_isFar v1) = 0 then (some ((-1 : Int32), d)) else (if (f_X9_isPart v2) = 0 then (some ((-1 : Int32), d)) else (if clsAt Λ p0 = some 9 then (Option.bind (f_X9_starts Λ d p0) fun z4 => Option.bind (f_X9_skillsBehind Λ z4 p0 v1) fun z5 => Option.bind (f_X9_startsJudging Λ z5.2 p0 z5.1) fun z6 => f_X9_gift_L31 Λ p0 v1 v2 FU (0 : Int32) z6) else none))
set_option maxHeartbeats 4000000 in
set_option maxRecDepth 100000 in
theorem w_X9_gift_L31 {p : Program} {l : Launch} {e : Env} {s : State} {m : MethodId} {args : Array Value} {below : List Frame} {meth : Method} {c : Code} {Γ : Cx} {Λ : List Ly} {z : Int32 × Dt} (C0 : Ct Γ p s m args c cX9_gift 4 "SeasonBoundModel") (hr : meth.sig.returnType = (some FieldType.int)) (hlocks : meth.locks = false) (p0 : Nat) (v1 : Int32) (v2 : Int32) :
    ∀ (n : Nat) (v3 : Int32) (d : Dt), f_X9_gift_L31 Λ p0 v1 v2 n v3 d = some z → ∀ (H : Heap) (locs : List Loc) (ls : Array Slot), Hs Γ Λ d s H locs → lv_has ls 4 [(0, .ref (ad Γ.2.2.1 p0)), (1, .int v1), (2, .int v2), (3, .int v3)] → W p l e { frames := 7, cells := 0, slots := 0, locals := 152 } s m args below meth c H locs 0 0 (MQ below (QN Γ Λ z.2 (some (.int z.1))) args s 0 0 (AP Γ)) (F0 m 31 ls []) := by
  obtain ⟨hx, hb, hml, hown, hts, hK⟩ := id C0
  intro n
  induction n with
  | zero =>
    intro v3 d hf
    cases hf
  | succ n ih =>
    intro v3 d hf H locs ls hH hl
    unfold f_X9_gift_L31 at hf
    refine lv_iload_n hx hb dX9_gift_31 rfl (lv_at hl 3 rfl) ?_
    refine lv_iconst (v := (4 : Int32)) hx hb dX9_gift_32 (by decide) ?_
    refine lv_icmp_ge (tgt := 83) hx hb dX9_gift_33 (by decide) (fun c7 => ?_) (fun c7 => ?_)
    · replace hf := it hf c7
      refine lv_aload_n hx hb dX9_gift_83 rfl (lv_at hl 0 rfl) ?_
      refine lv_iload_n hx hb dX9_gift_84 rfl (lv_at hl 2 rfl) ?_
      obtain ⟨g8, hf⟩ := gd hf
      obtain ⟨z9, h9, hf⟩ := ob hf
      refine r_callVi (rest := []) C0 hH (c_X9_judged Γ l Λ d p0 v2 z9 h9) cv_X9_238 g8 (by decide) rfl hl.1 rfl (Nat.le_of_ble_eq_true rfl) dX9_gift_85 (by decide) (fun H locs hH => ?_)
      obtain rfl := Option.some.inj hf
      exact r_iret (d' := d) C0 hr hlocks hH rfl dX9_gift_88
    · replace hf := ie hf c7
      refine lv_aload_n hx hb dX9_gift_36 rfl (lv_at hl 0 rfl) ?_
      obtain ⟨g10, hf⟩ := gd hf
      obtain ⟨z11, h11, hf⟩ := ob hf
      refine r_callVv (rest := []) C0 hH (c_X9_starts Γ l Λ d p0 z11 h11) cv_X9_177 g10 (by decide) rfl hl.1 rfl (Nat.le_of_ble_eq_true rfl) dX9_gift_37 (by decide) (fun H locs hH => ?_)
      refine lv_aload_n hx hb dX9_gift_40 rfl (lv_at hl 0 rfl) ?_
      obtain ⟨q12, g12, hf⟩ := ob hf
      refine r_getr C0 hH fl_X9_13 g12 dX9_gift_41 ?_
      refine lv_iconst (v := (3 : Int32)) hx hb dX9_gift_44 (by decide) ?_
      refine lv_iload_n hx hb dX9_gift_45 rfl (lv_at hl 3 rfl) ?_
      refine lv_imul hx hb dX9_gift_46 ?_
      refine lv_iconst (v := (1 : Int32)) hx hb dX9_gift_47 (by decide) ?_
      refine lv_iadd hx hb dX9_gift_48 ?_
      refine lv_bipush (v := (9 : Int32)) hx hb dX9_gift_49 (by decide) ?_
      refine lv_aload_n hx hb dX9_gift_51 rfl (lv_at hl 0 rfl) ?_
      obtain ⟨q13, g13, hf⟩ := ob hf
      refine r_getr C0 hH fl_X9_7 g13 dX9_gift_52 ?_
      refine lv_iconst (v := (3 : Int32)) hx hb dX9_gift_55 (by decide) ?_
      refine lv_iload_n hx hb dX9_gift_56 rfl (lv_at hl 3 rfl) ?_
      refine lv_imul hx hb dX9_gift_57 ?_
      refine lv_iconst (v := (1 : Int32)) hx hb dX9_gift_58 (by decide) ?_
      refine lv_iadd hx hb dX9_gift_59 ?_
      obtain ⟨g14, hf⟩ := gd hf
      refine r_iald C0 hH g14 dX9_gift_60 ?_
      refine lv_iconst (v := (1 : Int32)) hx hb dX9_gift_61 (by decide) ?_
      refine lv_iadd hx hb dX9_gift_62 ?_
      refine r_callSi (rest := [.int (((3 : Int32) * v3) + (1 : Int32)), .ref (ad Γ.2.2.1 q12)]) C0 hH (c_X9_lesser Γ l Λ z11 (9 : Int32) ((z11.1 q13 ((((3 : Int32) * v3) + (1 : Int32))).toNatClampNeg) + (1 : Int32))) cs_X9_150 (by decide) rfl hl.1 rfl (Nat.le_of_ble_eq_true rfl) dX9_gift_63 (by decide) (fun H locs hH => ?_)
      obtain ⟨g15, hf⟩ := gd hf
      refine r_iast C0 hH g15 dX9_gift_66 (fun H locs hH => ?_)
      refine lv_aload_n hx hb dX9_gift_67 rfl (lv_at hl 0 rfl) ?_
      refine lv_iload_n hx hb dX9_gift_68 rfl (lv_at hl 3 rfl) ?_
      refine lv_aload_n hx hb dX9_gift_69 rfl (lv_at hl 0 rfl) ?_
      refine lv_iload_n hx hb dX9_gift_70 rfl (lv_at hl 1 rfl) ?_
      obtain ⟨z16, h16, hf⟩ := ob hf
      refine r_callVi (rest := [.int v3, .ref (ad Γ.2.2.1 p0)]) C0 hH (c_X9_skillsBehind Γ l Λ (pI z11 q12 ((((3 : Int32) * v3) + (1 : Int32))).toNatClampNeg (f_X9_lesser (9 : Int32) ((z11.1 q13 ((((3 : Int32) * v3) + (1 : Int32))).toNatClampNeg) + (1 : Int32)))) p0 v1 z16 h16) cv_X9_204 g10 (by decide) rfl hl.1 rfl (Nat.le_of_ble_eq_true rfl) dX9_gift_71 (by decide) (fun H locs hH => ?_)
      obtain ⟨z17, h17, hf⟩ := ob hf
      refine r_callVv (rest := []) C0 hH (c_X9_judges Γ l Λ z16.2 p0 v3 z16.1 z17 h17) cv_X9_234 g10 (by decide) rfl hl.1 rfl (Nat.le_of_ble_eq_true rfl) dX9_gift_74 (by decide) (fun H locs hH => ?_)
      refine lv_iinc (v := (v3 + (1 : Int32))) (lv' := [(3, .int (v3 + (1 : Int32))), (0, .ref (ad Γ.2.2.1 p0)), (1, .int v1), (2, .int v2)]) hx hb dX9_gift_77 hl (k := 3) rfl (congrArg (fun w => v3 + w) (by decide)) (by decide) rfl (fun ls hl => ?_)
      refine lv_goto (tgt := 31) hx hb dX9_gift_80 (by decide) ?_
      exact ih (v3 + (1 : Int32)) z17 hf _ _ _ hH (lv_sub hl [1, 2, 3, 0] rfl)
set_option maxHeartbeats 4000000 in
set_option maxRecDepth 100000 in
theorem c_X9_gift (Γ : Cx) (l : Launch) (Λ : List Ly) (d : Dt) (p0 : Nat) (v1 : Int32) (v2 : Int32) (z : Int32 × Dt) (hf : f_X9_gift Λ d p0 v1 v2 = some z) : Cn Γ l yX9_gift cX9_gift 4 (some FieldType.int) 7 152 [.ref (ad Γ.2.2.1 p0), .int v1, .int v2] Λ d (some (.int z.1)) z.2 := by
  refine Cn.of (own := "SeasonBoundModel") (by decide +kernel) rfl (Nat.le_of_ble_eq_true rfl) ?_
  intro p e s m below meth c C0 hr hlocks hH ls hl
  have hl : lv_has ls 4 [(0, .ref (ad Γ.2.2.1 p0)), (1, .int v1), (2, .int v2)] := hl
  obtain ⟨hx, hb, hml, hown, hts, hK⟩ := id C0
  unfold f_X9_gift at hf
  refine lv_iload_n hx hb dX9_gift_0 rfl (lv_at hl 1 rfl) ?_
  refine r_callSi (rest := []) C0 hH (c_X9_isFar Γ l Λ d v1) cs_X9_212 (by decide) rfl hl.1 rfl (Nat.le_of_ble_eq_true rfl) dX9_gift_1 (by decide) (fun H locs hH => ?_)
  refine lv_if_eq (tgt := 14) hx hb dX9_gift_4 (by decide) (fun c1 => ?_) (fun c1 => ?_)
  · replace hf := it hf c1
    refine lv_iconst (v := (-1 : Int32)) hx hb dX9_gift_14 (by decide) ?_
    obtain rfl := Option.some.inj hf
    exact r_iret (d' := d) C0 hr hlocks hH rfl dX9_gift_15
  · replace hf := ie hf c1
    refine lv_iload_n hx hb dX9_gift_7 rfl (lv_at hl 2 rfl) ?_
    refine r_callSi (rest := []) C0 hH (c_X9_isPart Γ l Λ d v2) cs_X9_228 (by decide) rfl hl.1 rfl (Nat.le_of_ble_eq_true rfl) dX9_gift_8 (by decide) (fun H locs hH => ?_)
    refine lv_if_ne (tgt := 16) hx hb dX9_gift_11 (by decide) (fun c2 => ?_) (fun c2 => ?_)
    · replace hf := ie hf c2
      refine lv_aload_n hx hb dX9_gift_16 rfl (lv_at hl 0 rfl) ?_
      obtain ⟨g3, hf⟩ := gd hf
      obtain ⟨z4, h4, hf⟩ := ob hf
      refine r_callVv (rest := []) C0 hH (c_X9_starts Γ l Λ d p0 z4 h4) cv_X9_177 g3 (by decide) rfl hl.1 rfl (Nat.le_of_ble_eq_true rfl) dX9_gift_17 (by decide) (fun H locs hH => ?_)
      refine lv_aload_n hx hb dX9_gift_20 rfl (lv_at hl 0 rfl) ?_
      refine lv_aload_n hx hb dX9_gift_21 rfl (lv_at hl 0 rfl) ?_
      refine lv_iload_n hx hb dX9_gift_22 rfl (lv_at hl 1 rfl) ?_
      obtain ⟨z5, h5, hf⟩ := ob hf
      refine r_callVi (rest := [.ref (ad Γ.2.2.1 p0)]) C0 hH (c_X9_skillsBehind Γ l Λ z4 p0 v1 z5 h5) cv_X9_204 g3 (by decide) rfl hl.1 rfl (Nat.le_of_ble_eq_true rfl) dX9_gift_23 (by decide) (fun H locs hH => ?_)
      obtain ⟨z6, h6, hf⟩ := ob hf
      refine r_callVv (rest := []) C0 hH (c_X9_startsJudging Γ l Λ z5.2 p0 z5.1 z6 h6) cv_X9_231 g3 (by decide) rfl hl.1 rfl (Nat.le_of_ble_eq_true rfl) dX9_gift_26 (by decide) (fun H locs hH => ?_)
      refine lv_iconst (v := (0 : Int32)) hx hb dX9_gift_29 (by decide) ?_
      refine lv_istore_n (lv' := [(3, .int (0 : Int32)), (0, .ref (ad Γ.2.2.1 p0)), (1, .int v1), (2, .int v2)]) hx hb dX9_gift_30 rfl hl (by decide) rfl (fun ls hl => ?_)
      refine w_X9_gift_L31 C0 hr hlocks p0 v1 v2 FU (0 : Int32) z6 hf _ _ _ hH (lv_sub hl [1, 2, 3, 0] rfl)
    · replace hf := it hf c2
      refine lv_iconst (v := (-1 : Int32)) hx hb dX9_gift_14 (by decide) ?_
      obtain rfl := Option.some.inj hf
      exact r_iret (d' := d) C0 hr hlocks hH rfl dX9_gift_15
theorem dX9_term_0 : decode cX9_term 0 = .ok (.aload_n 0, 1) := by decide +kernel
theorem dX9_term_1 : decode cX9_term 1 = .ok (.iload_n 1, 1) := by decide +kernel
theorem dX9_term_2 : decode cX9_term 2 = .ok (.invokevirtual 180, 3) := by decide +kernel
theorem dX9_term_5 : decode cX9_term 5 = .ok (.ifCond .eq 17, 3) := by decide +kernel
theorem dX9_term_8 : decode cX9_term 8 = .ok (.iload_n 2, 1) := by decide +kernel
theorem dX9_term_9 : decode cX9_term 9 = .ok (.invokestatic 212, 3) := by decide +kernel
theorem dX9_term_12 : decode cX9_term 12 = .ok (.ifCond .eq 10, 3) := by decide +kernel
theorem dX9_term_15 : decode cX9_term 15 = .ok (.iload_n 3, 1) := by decide +kernel
theorem dX9_term_16 : decode cX9_term 16 = .ok (.invokestatic 191, 3) := by decide +kernel
theorem dX9_term_19 : decode cX9_term 19 = .ok (.ifCond .ne 5, 3) := by decide +kernel
theorem dX9_term_22 : decode cX9_term 22 = .ok (.iconst (-1), 1) := by decide +kernel
theorem dX9_term_23 : decode cX9_term 23 = .ok (.ireturn, 1) := by decide +kernel
theorem dX9_term_24 : decode cX9_term 24 = .ok (.aload_n 0, 1) := by decide +kernel
theorem dX9_term_25 : decode cX9_term 25 = .ok (.iload_n 1, 1) := by decide +kernel
theorem dX9_term_26 : decode cX9_term 26 = .ok (.invokevirtual 199, 3) := by decide +kernel
theorem dX9_term_29 : decode cX9_term 29 = .ok (.ifCond .ne 6, 3) := by decide +kernel
theorem dX9_term_32 : decode cX9_term 32 = .ok (.bipush (-2), 2) := by decide +kernel
theorem dX9_term_34 : decode cX9_term 34 = .ok (.ireturn, 1) := by decide +kernel
theorem dX9_term_35 : decode cX9_term 35 = .ok (.iconst 1, 1) := by decide +kernel
theorem dX9_term_36 : decode cX9_term 36 = .ok (.istore 4, 2) := by decide +kernel
theorem dX9_term_38 : decode cX9_term 38 = .ok (.iload 4, 2) := by decide +kernel
theorem dX9_term_40 : decode cX9_term 40 = .ok (.bipush 99, 2) := by decide +kernel
theorem dX9_term_42 : decode cX9_term 42 = .ok (.if_icmp .gt 39, 3) := by decide +kernel
theorem dX9_term_45 : decode cX9_term 45 = .ok (.aload_n 0, 1) := by decide +kernel
theorem dX9_term_46 : decode cX9_term 46 = .ok (.invokevirtual 177, 3) := by decide +kernel
theorem dX9_term_49 : decode cX9_term 49 = .ok (.aload_n 0, 1) := by decide +kernel
theorem dX9_term_50 : decode cX9_term 50 = .ok (.iload_n 1, 1) := by decide +kernel
theorem dX9_term_51 : decode cX9_term 51 = .ok (.iconst 2, 1) := by decide +kernel
theorem dX9_term_52 : decode cX9_term 52 = .ok (.iload 4, 2) := by decide +kernel
theorem dX9_term_54 : decode cX9_term 54 = .ok (.invokevirtual 153, 3) := by decide +kernel
theorem dX9_term_57 : decode cX9_term 57 = .ok (.aload_n 0, 1) := by decide +kernel
theorem dX9_term_58 : decode cX9_term 58 = .ok (.iload_n 2, 1) := by decide +kernel
theorem dX9_term_59 : decode cX9_term 59 = .ok (.invokevirtual 171, 3) := by decide +kernel
theorem dX9_term_62 : decode cX9_term 62 = .ok (.aload_n 0, 1) := by decide +kernel
theorem dX9_term_63 : decode cX9_term 63 = .ok (.iload_n 1, 1) := by decide +kernel
theorem dX9_term_64 : decode cX9_term 64 = .ok (.iconst 3, 1) := by decide +kernel
theorem dX9_term_65 : decode cX9_term 65 = .ok (.invokevirtual 136, 3) := by decide +kernel
theorem dX9_term_68 : decode cX9_term 68 = .ok (.iload_n 3, 1) := by decide +kernel
theorem dX9_term_69 : decode cX9_term 69 = .ok (.if_icmp .lt 6, 3) := by decide +kernel
theorem dX9_term_72 : decode cX9_term 72 = .ok (.iload 4, 2) := by decide +kernel
theorem dX9_term_74 : decode cX9_term 74 = .ok (.ireturn, 1) := by decide +kernel
theorem dX9_term_75 : decode cX9_term 75 = .ok (.iinc 4 1, 3) := by decide +kernel
theorem dX9_term_78 : decode cX9_term 78 = .ok (.goto (-40), 3) := by decide +kernel
theorem dX9_term_81 : decode cX9_term 81 = .ok (.bipush (-4), 2) := by decide +kernel
theorem dX9_term_83 : decode cX9_term 83 = .ok (.ireturn, 1) := by decide +kernel
def f_X9_term_L38 (Λ : List Ly) (p0 : Nat) (v1 : Int32) (v2 : Int32) (v3 : Int32) : Nat → Int32 → Dt → Option (Int32 × Dt)
  | 0, _, _ => none
  | n + 1, v4, d => if (99 : Int32) < v4 then (some ((-4 : Int32), d)) else (if clsAt Λ p0 = some 9 then (Option.bind (f_X9_starts Λ d p0) fun z10 => Option.bind (f_X9_becomesOf Λ z10 p0 v1 (2 : Int32) v4) fun z11 => Option.bind (f_X9_weeksGo Λ z11 p0 v2) fun z12 => Option.bind (f_X9_of Λ z12 p0 v1 (3 : Int32)) fun z13 => if z13 < v3 then (f_X9_term_L38 Λ p0 v1 v2 v3 n (v4 + (1 : Int32)) z12) else (some (v4, z12))) else none)
def f_X9_term (Λ : List Ly) (d : Dt) (p0 : Nat) (v1 : Int32) (v2 : Int32) (v3 : Int32) : Option (Int32 × Dt) := if clsAt Λ p0 = some 9 then (Option.bind (f_X9_isChild Λ d p0 v1) fun z2 => if z2 = 0 then (some ((-1 : Int32), d)) else (if (f_X9_isFar v2) = 0 then (some ((-1 : Int32), d)) else (if (f_X9_isSkill v3) = 0 then (some ((-1 : Int32), d)) else (Option.bind (f_X9_isBound Λ d p0 v1) fun z6 => if z6 = 0 then (some ((-2 : Int32), d)) else (f_X9_term_L38 Λ p0 v1 v2 v3 FU (1 : Int32) d))))) else none
set_option maxHeartbeats 4000000 in
set_option maxRecDepth 100000 in
theorem w_X9_term_L38 {p : Program} {l : Launch} {e : Env} {s : State} {m : MethodId} {args : Array Value} {below : List Frame} {meth : Method} {c : Code} {Γ : Cx} {Λ : List Ly} {z : Int32 × Dt} (C0 : Ct Γ p s m args c cX9_term 5 "SeasonBoundModel") (hr : meth.sig.returnType = (some FieldType.int)) (hlocks : meth.locks = false) (p0 : Nat) (v1 : Int32) (v2 : Int32) (v3 : Int32) :
    ∀ (n : Nat) (v4 : Int32) (d : Dt), f_X9_term_L38 Λ p0 v1 v2 v3 n v4 d = some z → ∀ (H : Heap) (locs : List Loc) (ls : Array Slot), Hs Γ Λ d s H locs → lv_has ls 5 [(0, .ref (ad Γ.2.2.1 p0)), (1, .int v1), (2, .int v2), (3, .int v3), (4, .int v4)] → W p l e { frames := 6, cells := 0, slots := 0, locals := 131 } s m args below meth c H locs 0 0 (MQ below (QN Γ Λ z.2 (some (.int z.1))) args s 0 0 (AP Γ)) (F0 m 38 ls []) := by
  obtain ⟨hx, hb, hml, hown, hts, hK⟩ := id C0
  intro n
  induction n with
  | zero =>
    intro v4 d hf
    cases hf
  | succ n ih =>
    intro v4 d hf H locs ls hH hl
    unfold f_X9_term_L38 at hf
    refine lv_iload hx hb dX9_term_38 (lv_at hl 4 rfl) ?_
    refine lv_bipush (v := (99 : Int32)) hx hb dX9_term_40 (by decide) ?_
    refine lv_icmp_gt (tgt := 81) hx hb dX9_term_42 (by decide) (fun c8 => ?_) (fun c8 => ?_)
    · replace hf := it hf c8
      refine lv_bipush (v := (-4 : Int32)) hx hb dX9_term_81 (by decide) ?_
      obtain rfl := Option.some.inj hf
      exact r_iret (d' := d) C0 hr hlocks hH rfl dX9_term_83
    · replace hf := ie hf c8
      refine lv_aload_n hx hb dX9_term_45 rfl (lv_at hl 0 rfl) ?_
      obtain ⟨g9, hf⟩ := gd hf
      obtain ⟨z10, h10, hf⟩ := ob hf
      refine r_callVv (rest := []) C0 hH (c_X9_starts Γ l Λ d p0 z10 h10) cv_X9_177 g9 (by decide) rfl hl.1 rfl (Nat.le_of_ble_eq_true rfl) dX9_term_46 (by decide) (fun H locs hH => ?_)
      refine lv_aload_n hx hb dX9_term_49 rfl (lv_at hl 0 rfl) ?_
      refine lv_iload_n hx hb dX9_term_50 rfl (lv_at hl 1 rfl) ?_
      refine lv_iconst (v := (2 : Int32)) hx hb dX9_term_51 (by decide) ?_
      refine lv_iload hx hb dX9_term_52 (lv_at hl 4 rfl) ?_
      obtain ⟨z11, h11, hf⟩ := ob hf
      refine r_callVv (rest := []) C0 hH (c_X9_becomesOf Γ l Λ z10 p0 v1 (2 : Int32) v4 z11 h11) cv_X9_153 g9 (by decide) rfl hl.1 rfl (Nat.le_of_ble_eq_true rfl) dX9_term_54 (by decide) (fun H locs hH => ?_)
      refine lv_aload_n hx hb dX9_term_57 rfl (lv_at hl 0 rfl) ?_
      refine lv_iload_n hx hb dX9_term_58 rfl (lv_at hl 2 rfl) ?_
      obtain ⟨z12, h12, hf⟩ := ob hf
      refine r_callVv (rest := []) C0 hH (c_X9_weeksGo Γ l Λ z11 p0 v2 z12 h12) cv_X9_171 g9 (by decide) rfl hl.1 rfl (Nat.le_of_ble_eq_true rfl) dX9_term_59 (by decide) (fun H locs hH => ?_)
      refine lv_aload_n hx hb dX9_term_62 rfl (lv_at hl 0 rfl) ?_
      refine lv_iload_n hx hb dX9_term_63 rfl (lv_at hl 1 rfl) ?_
      refine lv_iconst (v := (3 : Int32)) hx hb dX9_term_64 (by decide) ?_
      obtain ⟨z13, h13, hf⟩ := ob hf
      refine r_callVi (rest := []) C0 hH (c_X9_of Γ l Λ z12 p0 v1 (3 : Int32) z13 h13) cv_X9_136 g9 (by decide) rfl hl.1 rfl (Nat.le_of_ble_eq_true rfl) dX9_term_65 (by decide) (fun H locs hH => ?_)
      refine lv_iload_n hx hb dX9_term_68 rfl (lv_at hl 3 rfl) ?_
      refine lv_icmp_lt (tgt := 75) hx hb dX9_term_69 (by decide) (fun c14 => ?_) (fun c14 => ?_)
      · replace hf := it hf c14
        refine lv_iinc (v := (v4 + (1 : Int32))) (lv' := [(4, .int (v4 + (1 : Int32))), (0, .ref (ad Γ.2.2.1 p0)), (1, .int v1), (2, .int v2), (3, .int v3)]) hx hb dX9_term_75 hl (k := 4) rfl (congrArg (fun w => v4 + w) (by decide)) (by decide) rfl (fun ls hl => ?_)
        refine lv_goto (tgt := 38) hx hb dX9_term_78 (by decide) ?_
        exact ih (v4 + (1 : Int32)) z12 hf _ _ _ hH (lv_sub hl [1, 2, 3, 4, 0] rfl)
      · replace hf := ie hf c14
        refine lv_iload hx hb dX9_term_72 (lv_at hl 4 rfl) ?_
        obtain rfl := Option.some.inj hf
        exact r_iret (d' := d) C0 hr hlocks hH rfl dX9_term_74
set_option maxHeartbeats 4000000 in
set_option maxRecDepth 100000 in
theorem c_X9_term (Γ : Cx) (l : Launch) (Λ : List Ly) (d : Dt) (p0 : Nat) (v1 : Int32) (v2 : Int32) (v3 : Int32) (z : Int32 × Dt) (hf : f_X9_term Λ d p0 v1 v2 v3 = some z) : Cn Γ l yX9_term cX9_term 5 (some FieldType.int) 6 131 [.ref (ad Γ.2.2.1 p0), .int v1, .int v2, .int v3] Λ d (some (.int z.1)) z.2 := by
  refine Cn.of (own := "SeasonBoundModel") (by decide +kernel) rfl (Nat.le_of_ble_eq_true rfl) ?_
  intro p e s m below meth c C0 hr hlocks hH ls hl
  have hl : lv_has ls 5 [(0, .ref (ad Γ.2.2.1 p0)), (1, .int v1), (2, .int v2), (3, .int v3)] := hl
  obtain ⟨hx, hb, hml, hown, hts, hK⟩ := id C0
  unfold f_X9_term at hf
  refine lv_aload_n hx hb dX9_term_0 rfl (lv_at hl 0 rfl) ?_
  refine lv_iload_n hx hb dX9_term_1 rfl (lv_at hl 1 rfl) ?_
  obtain ⟨g1, hf⟩ := gd hf
  obtain ⟨z2, h2, hf⟩ := ob hf
  refine r_callVi (rest := []) C0 hH (c_X9_isChild Γ l Λ d p0 v1 z2 h2) cv_X9_180 g1 (by decide) rfl hl.1 rfl (Nat.le_of_ble_eq_true rfl) dX9_term_2 (by decide) (fun H locs hH => ?_)
  refine lv_if_eq (tgt := 22) hx hb dX9_term_5 (by decide) (fun c3 => ?_) (fun c3 => ?_)
  · replace hf := it hf c3
    refine lv_iconst (v := (-1 : Int32)) hx hb dX9_term_22 (by decide) ?_
    obtain rfl := Option.some.inj hf
    exact r_iret (d' := d) C0 hr hlocks hH rfl dX9_term_23
  · replace hf := ie hf c3
    refine lv_iload_n hx hb dX9_term_8 rfl (lv_at hl 2 rfl) ?_
    refine r_callSi (rest := []) C0 hH (c_X9_isFar Γ l Λ d v2) cs_X9_212 (by decide) rfl hl.1 rfl (Nat.le_of_ble_eq_true rfl) dX9_term_9 (by decide) (fun H locs hH => ?_)
    refine lv_if_eq (tgt := 22) hx hb dX9_term_12 (by decide) (fun c4 => ?_) (fun c4 => ?_)
    · replace hf := it hf c4
      refine lv_iconst (v := (-1 : Int32)) hx hb dX9_term_22 (by decide) ?_
      obtain rfl := Option.some.inj hf
      exact r_iret (d' := d) C0 hr hlocks hH rfl dX9_term_23
    · replace hf := ie hf c4
      refine lv_iload_n hx hb dX9_term_15 rfl (lv_at hl 3 rfl) ?_
      refine r_callSi (rest := []) C0 hH (c_X9_isSkill Γ l Λ d v3) cs_X9_191 (by decide) rfl hl.1 rfl (Nat.le_of_ble_eq_true rfl) dX9_term_16 (by decide) (fun H locs hH => ?_)
      refine lv_if_ne (tgt := 24) hx hb dX9_term_19 (by decide) (fun c5 => ?_) (fun c5 => ?_)
      · replace hf := ie hf c5
        refine lv_aload_n hx hb dX9_term_24 rfl (lv_at hl 0 rfl) ?_
        refine lv_iload_n hx hb dX9_term_25 rfl (lv_at hl 1 rfl) ?_
        obtain ⟨z6, h6, hf⟩ := ob hf
        refine r_callVi (rest := []) C0 hH (c_X9_isBound Γ l Λ d p0 v1 z6 h6) cv_X9_199 g1 (by decide) rfl hl.1 rfl (Nat.le_of_ble_eq_true rfl) dX9_term_26 (by decide) (fun H locs hH => ?_)
        refine lv_if_ne (tgt := 35) hx hb dX9_term_29 (by decide) (fun c7 => ?_) (fun c7 => ?_)
        · replace hf := ie hf c7
          refine lv_iconst (v := (1 : Int32)) hx hb dX9_term_35 (by decide) ?_
          refine lv_istore (lv' := [(4, .int (1 : Int32)), (0, .ref (ad Γ.2.2.1 p0)), (1, .int v1), (2, .int v2), (3, .int v3)]) hx hb dX9_term_36 hl (by decide) rfl (fun ls hl => ?_)
          refine w_X9_term_L38 C0 hr hlocks p0 v1 v2 v3 FU (1 : Int32) d hf _ _ _ hH (lv_sub hl [1, 2, 3, 4, 0] rfl)
        · replace hf := it hf c7
          refine lv_bipush (v := (-2 : Int32)) hx hb dX9_term_32 (by decide) ?_
          obtain rfl := Option.some.inj hf
          exact r_iret (d' := d) C0 hr hlocks hH rfl dX9_term_34
      · replace hf := it hf c5
        refine lv_iconst (v := (-1 : Int32)) hx hb dX9_term_22 (by decide) ?_
        obtain rfl := Option.some.inj hf
        exact r_iret (d' := d) C0 hr hlocks hH rfl dX9_term_23
theorem dX9_kind_0 : decode cX9_kind 0 = .ok (.aload_n 0, 1) := by decide +kernel
theorem dX9_kind_1 : decode cX9_kind 1 = .ok (.iload_n 1, 1) := by decide +kernel
theorem dX9_kind_2 : decode cX9_kind 2 = .ok (.invokevirtual 180, 3) := by decide +kernel
theorem dX9_kind_5 : decode cX9_kind 5 = .ok (.ifCond .eq 17, 3) := by decide +kernel
theorem dX9_kind_8 : decode cX9_kind 8 = .ok (.iload_n 2, 1) := by decide +kernel
theorem dX9_kind_9 : decode cX9_kind 9 = .ok (.invokestatic 212, 3) := by decide +kernel
theorem dX9_kind_12 : decode cX9_kind 12 = .ok (.ifCond .eq 10, 3) := by decide +kernel
theorem dX9_kind_15 : decode cX9_kind 15 = .ok (.iload_n 3, 1) := by decide +kernel
theorem dX9_kind_16 : decode cX9_kind 16 = .ok (.invokestatic 228, 3) := by decide +kernel
theorem dX9_kind_19 : decode cX9_kind 19 = .ok (.ifCond .ne 5, 3) := by decide +kernel
theorem dX9_kind_22 : decode cX9_kind 22 = .ok (.iconst (-1), 1) := by decide +kernel
theorem dX9_kind_23 : decode cX9_kind 23 = .ok (.ireturn, 1) := by decide +kernel
theorem dX9_kind_24 : decode cX9_kind 24 = .ok (.aload_n 0, 1) := by decide +kernel
theorem dX9_kind_25 : decode cX9_kind 25 = .ok (.iconst (-1), 1) := by decide +kernel
theorem dX9_kind_26 : decode cX9_kind 26 = .ok (.invokevirtual 231, 3) := by decide +kernel
theorem dX9_kind_29 : decode cX9_kind 29 = .ok (.iconst 0, 1) := by decide +kernel
theorem dX9_kind_30 : decode cX9_kind 30 = .ok (.istore 4, 2) := by decide +kernel
theorem dX9_kind_32 : decode cX9_kind 32 = .ok (.iload 4, 2) := by decide +kernel
theorem dX9_kind_34 : decode cX9_kind 34 = .ok (.iconst 4, 1) := by decide +kernel
theorem dX9_kind_35 : decode cX9_kind 35 = .ok (.if_icmp .ge 32, 3) := by decide +kernel
theorem dX9_kind_38 : decode cX9_kind 38 = .ok (.aload_n 0, 1) := by decide +kernel
theorem dX9_kind_39 : decode cX9_kind 39 = .ok (.invokevirtual 177, 3) := by decide +kernel
theorem dX9_kind_42 : decode cX9_kind 42 = .ok (.aload_n 0, 1) := by decide +kernel
theorem dX9_kind_43 : decode cX9_kind 43 = .ok (.iload_n 1, 1) := by decide +kernel
theorem dX9_kind_44 : decode cX9_kind 44 = .ok (.iconst 0, 1) := by decide +kernel
theorem dX9_kind_45 : decode cX9_kind 45 = .ok (.iload 4, 2) := by decide +kernel
theorem dX9_kind_47 : decode cX9_kind 47 = .ok (.invokevirtual 153, 3) := by decide +kernel
theorem dX9_kind_50 : decode cX9_kind 50 = .ok (.aload_n 0, 1) := by decide +kernel
theorem dX9_kind_51 : decode cX9_kind 51 = .ok (.iload 4, 2) := by decide +kernel
theorem dX9_kind_53 : decode cX9_kind 53 = .ok (.aload_n 0, 1) := by decide +kernel
theorem dX9_kind_54 : decode cX9_kind 54 = .ok (.iload_n 2, 1) := by decide +kernel
theorem dX9_kind_55 : decode cX9_kind 55 = .ok (.invokevirtual 204, 3) := by decide +kernel
theorem dX9_kind_58 : decode cX9_kind 58 = .ok (.invokevirtual 234, 3) := by decide +kernel
theorem dX9_kind_61 : decode cX9_kind 61 = .ok (.iinc 4 1, 3) := by decide +kernel
theorem dX9_kind_64 : decode cX9_kind 64 = .ok (.goto (-32), 3) := by decide +kernel
theorem dX9_kind_67 : decode cX9_kind 67 = .ok (.aload_n 0, 1) := by decide +kernel
theorem dX9_kind_68 : decode cX9_kind 68 = .ok (.iload_n 3, 1) := by decide +kernel
theorem dX9_kind_69 : decode cX9_kind 69 = .ok (.invokevirtual 238, 3) := by decide +kernel
theorem dX9_kind_72 : decode cX9_kind 72 = .ok (.ireturn, 1) := by decide +kernel
def f_X9_kind_L32 (Λ : List Ly) (p0 : Nat) (v1 : Int32) (v2 : Int32) (v3 : Int32) : Nat → Int32 → Dt → Option (Int32 × Dt)
  | 0, _, _ => none
  | n + 1, v4, d => if (4 : Int32) ≤ v4 then (if clsAt Λ p0 = some 9 then (Option.bind (f_X9_judged Λ d p0 v3) fun z9 => some (z9, d)) else none) else (if clsAt Λ p0 = some 9 then (Option.bind (f_X9_starts Λ d p0) fun z11 => Option.bind (f_X9_becomesOf Λ z11 p0 v1 (0 : Int32) v4) fun z12 => Option.bind (f_X9_skillsBehind Λ z12 p0 v2) fun z13 => Option.bind (f_X9_judges Λ z13.2 p0 v4 z13.1) fun z14 => f_X9_kind_L32 Λ p0 v1 v2 v3 n (v4 + (1 : Int32)) z14) else none)
def f_X9_kind (Λ : List Ly) (d : Dt) (p0 : Nat) (v1 : Int32) (v2 : Int32) (v3 : Int32) : Option (Int32 × Dt) := if clsAt Λ p0 = some 9 then (Option.bind (f_X9_isChild Λ d p0 v1) fun z2 => if z2 = 0 then (some ((-1 : Int32), d)) else (if (f_X9_isFar v2) = 0 then (some ((-1 : Int32), d)) else (if (f_X9_isPart v3) = 0 then (some ((-1 : Int32), d)) else (Option.bind (f_X9_startsJudging Λ d p0 (-1 : Int32)) fun z6 => f_X9_kind_L32 Λ p0 v1 v2 v3 FU (0 : Int32) z6)))) else none
set_option maxHeartbeats 4000000 in
set_option maxRecDepth 100000 in
theorem w_X9_kind_L32 {p : Program} {l : Launch} {e : Env} {s : State} {m : MethodId} {args : Array Value} {below : List Frame} {meth : Method} {c : Code} {Γ : Cx} {Λ : List Ly} {z : Int32 × Dt} (C0 : Ct Γ p s m args c cX9_kind 5 "SeasonBoundModel") (hr : meth.sig.returnType = (some FieldType.int)) (hlocks : meth.locks = false) (p0 : Nat) (v1 : Int32) (v2 : Int32) (v3 : Int32) :
    ∀ (n : Nat) (v4 : Int32) (d : Dt), f_X9_kind_L32 Λ p0 v1 v2 v3 n v4 d = some z → ∀ (H : Heap) (locs : List Loc) (ls : Array Slot), Hs Γ Λ d s H locs → lv_has ls 5 [(0, .ref (ad Γ.2.2.1 p0)), (1, .int v1), (2, .int v2), (3, .int v3), (4, .int v4)] → W p l e { frames := 7, cells := 0, slots := 0, locals := 152 } s m args below meth c H locs 0 0 (MQ below (QN Γ Λ z.2 (some (.int z.1))) args s 0 0 (AP Γ)) (F0 m 32 ls []) := by
  obtain ⟨hx, hb, hml, hown, hts, hK⟩ := id C0
  intro n
  induction n with
  | zero =>
    intro v4 d hf
    cases hf
  | succ n ih =>
    intro v4 d hf H locs ls hH hl
    unfold f_X9_kind_L32 at hf
    refine lv_iload hx hb dX9_kind_32 (lv_at hl 4 rfl) ?_
    refine lv_iconst (v := (4 : Int32)) hx hb dX9_kind_34 (by decide) ?_
    refine lv_icmp_ge (tgt := 67) hx hb dX9_kind_35 (by decide) (fun c7 => ?_) (fun c7 => ?_)
    · replace hf := it hf c7
      refine lv_aload_n hx hb dX9_kind_67 rfl (lv_at hl 0 rfl) ?_
      refine lv_iload_n hx hb dX9_kind_68 rfl (lv_at hl 3 rfl) ?_
      obtain ⟨g8, hf⟩ := gd hf
      obtain ⟨z9, h9, hf⟩ := ob hf
      refine r_callVi (rest := []) C0 hH (c_X9_judged Γ l Λ d p0 v3 z9 h9) cv_X9_238 g8 (by decide) rfl hl.1 rfl (Nat.le_of_ble_eq_true rfl) dX9_kind_69 (by decide) (fun H locs hH => ?_)
      obtain rfl := Option.some.inj hf
      exact r_iret (d' := d) C0 hr hlocks hH rfl dX9_kind_72
    · replace hf := ie hf c7
      refine lv_aload_n hx hb dX9_kind_38 rfl (lv_at hl 0 rfl) ?_
      obtain ⟨g10, hf⟩ := gd hf
      obtain ⟨z11, h11, hf⟩ := ob hf
      refine r_callVv (rest := []) C0 hH (c_X9_starts Γ l Λ d p0 z11 h11) cv_X9_177 g10 (by decide) rfl hl.1 rfl (Nat.le_of_ble_eq_true rfl) dX9_kind_39 (by decide) (fun H locs hH => ?_)
      refine lv_aload_n hx hb dX9_kind_42 rfl (lv_at hl 0 rfl) ?_
      refine lv_iload_n hx hb dX9_kind_43 rfl (lv_at hl 1 rfl) ?_
      refine lv_iconst (v := (0 : Int32)) hx hb dX9_kind_44 (by decide) ?_
      refine lv_iload hx hb dX9_kind_45 (lv_at hl 4 rfl) ?_
      obtain ⟨z12, h12, hf⟩ := ob hf
      refine r_callVv (rest := []) C0 hH (c_X9_becomesOf Γ l Λ z11 p0 v1 (0 : Int32) v4 z12 h12) cv_X9_153 g10 (by decide) rfl hl.1 rfl (Nat.le_of_ble_eq_true rfl) dX9_kind_47 (by decide) (fun H locs hH => ?_)
      refine lv_aload_n hx hb dX9_kind_50 rfl (lv_at hl 0 rfl) ?_
      refine lv_iload hx hb dX9_kind_51 (lv_at hl 4 rfl) ?_
      refine lv_aload_n hx hb dX9_kind_53 rfl (lv_at hl 0 rfl) ?_
      refine lv_iload_n hx hb dX9_kind_54 rfl (lv_at hl 2 rfl) ?_
      obtain ⟨z13, h13, hf⟩ := ob hf
      refine r_callVi (rest := [.int v4, .ref (ad Γ.2.2.1 p0)]) C0 hH (c_X9_skillsBehind Γ l Λ z12 p0 v2 z13 h13) cv_X9_204 g10 (by decide) rfl hl.1 rfl (Nat.le_of_ble_eq_true rfl) dX9_kind_55 (by decide) (fun H locs hH => ?_)
      obtain ⟨z14, h14, hf⟩ := ob hf
      refine r_callVv (rest := []) C0 hH (c_X9_judges Γ l Λ z13.2 p0 v4 z13.1 z14 h14) cv_X9_234 g10 (by decide) rfl hl.1 rfl (Nat.le_of_ble_eq_true rfl) dX9_kind_58 (by decide) (fun H locs hH => ?_)
      refine lv_iinc (v := (v4 + (1 : Int32))) (lv' := [(4, .int (v4 + (1 : Int32))), (0, .ref (ad Γ.2.2.1 p0)), (1, .int v1), (2, .int v2), (3, .int v3)]) hx hb dX9_kind_61 hl (k := 4) rfl (congrArg (fun w => v4 + w) (by decide)) (by decide) rfl (fun ls hl => ?_)
      refine lv_goto (tgt := 32) hx hb dX9_kind_64 (by decide) ?_
      exact ih (v4 + (1 : Int32)) z14 hf _ _ _ hH (lv_sub hl [1, 2, 3, 4, 0] rfl)
set_option maxHeartbeats 4000000 in
set_option maxRecDepth 100000 in
theorem c_X9_kind (Γ : Cx) (l : Launch) (Λ : List Ly) (d : Dt) (p0 : Nat) (v1 : Int32) (v2 : Int32) (v3 : Int32) (z : Int32 × Dt) (hf : f_X9_kind Λ d p0 v1 v2 v3 = some z) : Cn Γ l yX9_kind cX9_kind 5 (some FieldType.int) 7 152 [.ref (ad Γ.2.2.1 p0), .int v1, .int v2, .int v3] Λ d (some (.int z.1)) z.2 := by
  refine Cn.of (own := "SeasonBoundModel") (by decide +kernel) rfl (Nat.le_of_ble_eq_true rfl) ?_
  intro p e s m below meth c C0 hr hlocks hH ls hl
  have hl : lv_has ls 5 [(0, .ref (ad Γ.2.2.1 p0)), (1, .int v1), (2, .int v2), (3, .int v3)] := hl
  obtain ⟨hx, hb, hml, hown, hts, hK⟩ := id C0
  unfold f_X9_kind at hf
  refine lv_aload_n hx hb dX9_kind_0 rfl (lv_at hl 0 rfl) ?_
  refine lv_iload_n hx hb dX9_kind_1 rfl (lv_at hl 1 rfl) ?_
  obtain ⟨g1, hf⟩ := gd hf
  obtain ⟨z2, h2, hf⟩ := ob hf
  refine r_callVi (rest := []) C0 hH (c_X9_isChild Γ l Λ d p0 v1 z2 h2) cv_X9_180 g1 (by decide) rfl hl.1 rfl (Nat.le_of_ble_eq_true rfl) dX9_kind_2 (by decide) (fun H locs hH => ?_)
  refine lv_if_eq (tgt := 22) hx hb dX9_kind_5 (by decide) (fun c3 => ?_) (fun c3 => ?_)
  · replace hf := it hf c3
    refine lv_iconst (v := (-1 : Int32)) hx hb dX9_kind_22 (by decide) ?_
    obtain rfl := Option.some.inj hf
    exact r_iret (d' := d) C0 hr hlocks hH rfl dX9_kind_23
  · replace hf := ie hf c3
    refine lv_iload_n hx hb dX9_kind_8 rfl (lv_at hl 2 rfl) ?_
    refine r_callSi (rest := []) C0 hH (c_X9_isFar Γ l Λ d v2) cs_X9_212 (by decide) rfl hl.1 rfl (Nat.le_of_ble_eq_true rfl) dX9_kind_9 (by decide) (fun H locs hH => ?_)
    refine lv_if_eq (tgt := 22) hx hb dX9_kind_12 (by decide) (fun c4 => ?_) (fun c4 => ?_)
    · replace hf := it hf c4
      refine lv_iconst (v := (-1 : Int32)) hx hb dX9_kind_22 (by decide) ?_
      obtain rfl := Option.some.inj hf
      exact r_iret (d' := d) C0 hr hlocks hH rfl dX9_kind_23
    · replace hf := ie hf c4
      refine lv_iload_n hx hb dX9_kind_15 rfl (lv_at hl 3 rfl) ?_
      refine r_callSi (rest := []) C0 hH (c_X9_isPart Γ l Λ d v3) cs_X9_228 (by decide) rfl hl.1 rfl (Nat.le_of_ble_eq_true rfl) dX9_kind_16 (by decide) (fun H locs hH => ?_)
      refine lv_if_ne (tgt := 24) hx hb dX9_kind_19 (by decide) (fun c5 => ?_) (fun c5 => ?_)
      · replace hf := ie hf c5
        refine lv_aload_n hx hb dX9_kind_24 rfl (lv_at hl 0 rfl) ?_
        refine lv_iconst (v := (-1 : Int32)) hx hb dX9_kind_25 (by decide) ?_
        obtain ⟨z6, h6, hf⟩ := ob hf
        refine r_callVv (rest := []) C0 hH (c_X9_startsJudging Γ l Λ d p0 (-1 : Int32) z6 h6) cv_X9_231 g1 (by decide) rfl hl.1 rfl (Nat.le_of_ble_eq_true rfl) dX9_kind_26 (by decide) (fun H locs hH => ?_)
        refine lv_iconst (v := (0 : Int32)) hx hb dX9_kind_29 (by decide) ?_
        refine lv_istore (lv' := [(4, .int (0 : Int32)), (0, .ref (ad Γ.2.2.1 p0)), (1, .int v1), (2, .int v2), (3, .int v3)]) hx hb dX9_kind_30 hl (by decide) rfl (fun ls hl => ?_)
        refine w_X9_kind_L32 C0 hr hlocks p0 v1 v2 v3 FU (0 : Int32) z6 hf _ _ _ hH (lv_sub hl [1, 2, 3, 4, 0] rfl)
      · replace hf := it hf c5
        refine lv_iconst (v := (-1 : Int32)) hx hb dX9_kind_22 (by decide) ?_
        obtain rfl := Option.some.inj hf
        exact r_iret (d' := d) C0 hr hlocks hH rfl dX9_kind_23
theorem dX9_common_0 : decode cX9_common 0 = .ok (.lload_n 0, 1) := by decide +kernel
theorem dX9_common_1 : decode cX9_common 1 = .ok (.lstore 4, 2) := by decide +kernel
theorem dX9_common_3 : decode cX9_common 3 = .ok (.lload_n 2, 1) := by decide +kernel
theorem dX9_common_4 : decode cX9_common 4 = .ok (.lstore 6, 2) := by decide +kernel
theorem dX9_common_6 : decode cX9_common 6 = .ok (.lload 6, 2) := by decide +kernel
theorem dX9_common_8 : decode cX9_common 8 = .ok (.lconst 0, 1) := by decide +kernel
theorem dX9_common_9 : decode cX9_common 9 = .ok (.lcmp, 1) := by decide +kernel
theorem dX9_common_10 : decode cX9_common 10 = .ok (.ifCond .eq 21, 3) := by decide +kernel
theorem dX9_common_13 : decode cX9_common 13 = .ok (.lload 4, 2) := by decide +kernel
theorem dX9_common_15 : decode cX9_common 15 = .ok (.lload 6, 2) := by decide +kernel
theorem dX9_common_17 : decode cX9_common 17 = .ok (.lrem, 1) := by decide +kernel
theorem dX9_common_18 : decode cX9_common 18 = .ok (.lstore 8, 2) := by decide +kernel
theorem dX9_common_20 : decode cX9_common 20 = .ok (.lload 6, 2) := by decide +kernel
theorem dX9_common_22 : decode cX9_common 22 = .ok (.lstore 4, 2) := by decide +kernel
theorem dX9_common_24 : decode cX9_common 24 = .ok (.lload 8, 2) := by decide +kernel
theorem dX9_common_26 : decode cX9_common 26 = .ok (.lstore 6, 2) := by decide +kernel
theorem dX9_common_28 : decode cX9_common 28 = .ok (.goto (-22), 3) := by decide +kernel
theorem dX9_common_31 : decode cX9_common 31 = .ok (.lload 4, 2) := by decide +kernel
theorem dX9_common_33 : decode cX9_common 33 = .ok (.lreturn, 1) := by decide +kernel
def f_X9_common_L6 : Nat → Int64 → Int64 → Option Int64
  | 0, _, _ => none
  | n + 1, v4, v6 => if (lg_cmp v6 (0 : Int64)) = 0 then (some v4) else (if ¬ v6 = 0 then (f_X9_common_L6 n v6 (v4 - v4 / v6 * v6)) else none)
def f_X9_common (v0 : Int64) (v2 : Int64) : Option Int64 := f_X9_common_L6 FU v0 v2
set_option maxHeartbeats 4000000 in
set_option maxRecDepth 100000 in
theorem w_X9_common_L6 {p : Program} {l : Launch} {e : Env} {s : State} {m : MethodId} {args : Array Value} {below : List Frame} {meth : Method} {c : Code} {Γ : Cx} {Λ : List Ly} {z : Int64} {d : Dt} (C0 : Ct Γ p s m args c cX9_common 10 "SeasonBoundModel") (hr : meth.sig.returnType = (some FieldType.long)) (hlocks : meth.locks = false) :
    ∀ (n : Nat) (v4 : Int64) (v6 : Int64), f_X9_common_L6 n v4 v6 = some z → ∀ (H : Heap) (locs : List Loc) (ls : Array Slot), Hs Γ Λ d s H locs → lv_has ls 10 [(4, .long v4), (6, .long v6)] → W p l e { frames := 0, cells := 0, slots := 0, locals := 0 } s m args below meth c H locs 0 0 (MQ below (QN Γ Λ d (some (.long z))) args s 0 0 (AP Γ)) (F0 m 6 ls []) := by
  obtain ⟨hx, hb, hml, hown, hts, hK⟩ := id C0
  intro n
  induction n with
  | zero =>
    intro v4 v6 hf
    cases hf
  | succ n ih =>
    intro v4 v6 hf H locs ls hH hl
    unfold f_X9_common_L6 at hf
    refine lv_lload hx hb dX9_common_6 (lv_at hl 1 rfl) ?_
    refine lv_lconst (v := (0 : Int64)) hx hb dX9_common_8 (by decide) ?_
    refine W.lcmp hx hb dX9_common_9 ?_
    refine lv_if_eq (tgt := 31) hx hb dX9_common_10 (by decide) (fun c1 => ?_) (fun c1 => ?_)
    · replace hf := it hf c1
      refine lv_lload hx hb dX9_common_31 (lv_at hl 0 rfl) ?_
      obtain rfl := Option.some.inj hf
      exact r_lret C0 hr hlocks hH dX9_common_33
    · replace hf := ie hf c1
      refine lv_lload hx hb dX9_common_13 (lv_at hl 0 rfl) ?_
      refine lv_lload hx hb dX9_common_15 (lv_at hl 1 rfl) ?_
      obtain ⟨g2, hf⟩ := gd hf
      refine lv_lrem hx hb dX9_common_17 g2 ?_
      refine lv_lstore (lv' := [(8, .long (v4 - v4 / v6 * v6)), (4, .long v4), (6, .long v6)]) hx hb dX9_common_18 hl (by decide) rfl (fun ls hl => ?_)
      refine lv_lload hx hb dX9_common_20 (lv_at hl 2 rfl) ?_
      refine lv_lstore (lv' := [(4, .long v6), (8, .long (v4 - v4 / v6 * v6)), (6, .long v6)]) hx hb dX9_common_22 hl (by decide) rfl (fun ls hl => ?_)
      refine lv_lload hx hb dX9_common_24 (lv_at hl 1 rfl) ?_
      refine lv_lstore (lv' := [(6, .long (v4 - v4 / v6 * v6)), (4, .long v6), (8, .long (v4 - v4 / v6 * v6))]) hx hb dX9_common_26 hl (by decide) rfl (fun ls hl => ?_)
      refine lv_goto (tgt := 6) hx hb dX9_common_28 (by decide) ?_
      exact ih v6 (v4 - v4 / v6 * v6) hf _ _ _ hH (lv_sub hl [1, 0] rfl)
set_option maxHeartbeats 4000000 in
set_option maxRecDepth 100000 in
theorem c_X9_common (Γ : Cx) (l : Launch) (Λ : List Ly) (d : Dt) (v0 : Int64) (v2 : Int64) (z : Int64) (hf : f_X9_common v0 v2 = some z) : Cn Γ l yX9_common cX9_common 10 (some FieldType.long) 0 0 [.long v0, .long v2] Λ d (some (.long z)) d := by
  refine Cn.of (own := "SeasonBoundModel") (by decide +kernel) rfl (Nat.le_of_ble_eq_true rfl) ?_
  intro p e s m below meth c C0 hr hlocks hH ls hl
  have hl : lv_has ls 10 [(0, .long v0), (2, .long v2)] := hl
  obtain ⟨hx, hb, hml, hown, hts, hK⟩ := id C0
  unfold f_X9_common at hf
  refine lv_lload_n hx hb dX9_common_0 rfl (lv_at hl 0 rfl) ?_
  refine lv_lstore (lv' := [(4, .long v0), (0, .long v0), (2, .long v2)]) hx hb dX9_common_1 hl (by decide) rfl (fun ls hl => ?_)
  refine lv_lload_n hx hb dX9_common_3 rfl (lv_at hl 2 rfl) ?_
  refine lv_lstore (lv' := [(6, .long v2), (4, .long v0), (0, .long v0), (2, .long v2)]) hx hb dX9_common_4 hl (by decide) rfl (fun ls hl => ?_)
  refine w_X9_common_L6 C0 hr hlocks FU v0 v2 hf _ _ _ hH (lv_sub hl [1, 0] rfl)
theorem dX9_told_0 : decode cX9_told 0 = .ok (.lload_n 2, 1) := by decide +kernel
theorem dX9_told_1 : decode cX9_told 1 = .ok (.lload_n 0, 1) := by decide +kernel
theorem dX9_told_2 : decode cX9_told 2 = .ok (.invokestatic 241, 3) := by decide +kernel
theorem dX9_told_5 : decode cX9_told 5 = .ok (.lstore 5, 2) := by decide +kernel
theorem dX9_told_7 : decode cX9_told 7 = .ok (.iload 4, 2) := by decide +kernel
theorem dX9_told_9 : decode cX9_told 9 = .ok (.ifCond .ne 10, 3) := by decide +kernel
theorem dX9_told_12 : decode cX9_told 12 = .ok (.lload_n 0, 1) := by decide +kernel
theorem dX9_told_13 : decode cX9_told 13 = .ok (.lload 5, 2) := by decide +kernel
theorem dX9_told_15 : decode cX9_told 15 = .ok (.ldiv, 1) := by decide +kernel
theorem dX9_told_16 : decode cX9_told 16 = .ok (.goto 7, 3) := by decide +kernel
theorem dX9_told_19 : decode cX9_told 19 = .ok (.lload_n 2, 1) := by decide +kernel
theorem dX9_told_20 : decode cX9_told 20 = .ok (.lload 5, 2) := by decide +kernel
theorem dX9_told_22 : decode cX9_told 22 = .ok (.ldiv, 1) := by decide +kernel
theorem dX9_told_23 : decode cX9_told 23 = .ok (.lreturn, 1) := by decide +kernel
def f_X9_told (v0 : Int64) (v2 : Int64) (v4 : Int32) : Option Int64 := Option.bind (f_X9_common v2 v0) fun z1 => if v4 = 0 then (if ¬ z1 = 0 then (some (v0 / z1)) else none) else (if ¬ z1 = 0 then (some (v2 / z1)) else none)
set_option maxHeartbeats 4000000 in
set_option maxRecDepth 100000 in
theorem c_X9_told (Γ : Cx) (l : Launch) (Λ : List Ly) (d : Dt) (v0 : Int64) (v2 : Int64) (v4 : Int32) (z : Int64) (hf : f_X9_told v0 v2 v4 = some z) : Cn Γ l yX9_told cX9_told 7 (some FieldType.long) 1 29 [.long v0, .long v2, .int v4] Λ d (some (.long z)) d := by
  refine Cn.of (own := "SeasonBoundModel") (by decide +kernel) rfl (Nat.le_of_ble_eq_true rfl) ?_
  intro p e s m below meth c C0 hr hlocks hH ls hl
  have hl : lv_has ls 7 [(0, .long v0), (2, .long v2), (4, .int v4)] := hl
  obtain ⟨hx, hb, hml, hown, hts, hK⟩ := id C0
  unfold f_X9_told at hf
  refine lv_lload_n hx hb dX9_told_0 rfl (lv_at hl 1 rfl) ?_
  refine lv_lload_n hx hb dX9_told_1 rfl (lv_at hl 0 rfl) ?_
  obtain ⟨z1, h1, hf⟩ := ob hf
  refine r_callSj (rest := []) C0 hH (c_X9_common Γ l Λ d v2 v0 z1 h1) cs_X9_241 (by decide) rfl hl.1 rfl (Nat.le_of_ble_eq_true rfl) dX9_told_2 (by decide) (fun H locs hH => ?_)
  refine lv_lstore (lv' := [(5, .long z1), (0, .long v0), (2, .long v2), (4, .int v4)]) hx hb dX9_told_5 hl (by decide) rfl (fun ls hl => ?_)
  refine lv_iload hx hb dX9_told_7 (lv_at hl 3 rfl) ?_
  refine lv_if_ne (tgt := 19) hx hb dX9_told_9 (by decide) (fun c2 => ?_) (fun c2 => ?_)
  · replace hf := ie hf c2
    refine lv_lload_n hx hb dX9_told_19 rfl (lv_at hl 2 rfl) ?_
    refine lv_lload hx hb dX9_told_20 (lv_at hl 0 rfl) ?_
    obtain ⟨g3, hf⟩ := gd hf
    refine lv_ldiv hx hb dX9_told_22 g3 ?_
    obtain rfl := Option.some.inj hf
    exact r_lret C0 hr hlocks hH dX9_told_23
  · replace hf := it hf c2
    refine lv_lload_n hx hb dX9_told_12 rfl (lv_at hl 1 rfl) ?_
    refine lv_lload hx hb dX9_told_13 (lv_at hl 0 rfl) ?_
    obtain ⟨g4, hf⟩ := gd hf
    refine lv_ldiv hx hb dX9_told_15 g4 ?_
    refine lv_goto (tgt := 23) hx hb dX9_told_16 (by decide) ?_
    obtain rfl := Option.some.inj hf
    exact r_lret C0 hr hlocks hH dX9_told_23
theorem dX9_findOdds_0 : decode cX9_findOdds 0 = .ok (.aload_n 0, 1) := by decide +kernel
theorem dX9_findOdds_1 : decode cX9_findOdds 1 = .ok (.lconst 0, 1) := by decide +kernel
theorem dX9_findOdds_2 : decode cX9_findOdds 2 = .ok (.putfield 245, 3) := by decide +kernel
theorem dX9_findOdds_5 : decode cX9_findOdds 5 = .ok (.aload_n 0, 1) := by decide +kernel
theorem dX9_findOdds_6 : decode cX9_findOdds 6 = .ok (.lconst 0, 1) := by decide +kernel
theorem dX9_findOdds_7 : decode cX9_findOdds 7 = .ok (.putfield 249, 3) := by decide +kernel
theorem dX9_findOdds_10 : decode cX9_findOdds 10 = .ok (.aload_n 0, 1) := by decide +kernel
theorem dX9_findOdds_11 : decode cX9_findOdds 11 = .ok (.lconst 1, 1) := by decide +kernel
theorem dX9_findOdds_12 : decode cX9_findOdds 12 = .ok (.putfield 252, 3) := by decide +kernel
theorem dX9_findOdds_15 : decode cX9_findOdds 15 = .ok (.iconst 0, 1) := by decide +kernel
theorem dX9_findOdds_16 : decode cX9_findOdds 16 = .ok (.istore 5, 2) := by decide +kernel
theorem dX9_findOdds_18 : decode cX9_findOdds 18 = .ok (.iload 5, 2) := by decide +kernel
theorem dX9_findOdds_20 : decode cX9_findOdds 20 = .ok (.iload_n 3, 1) := by decide +kernel
theorem dX9_findOdds_21 : decode cX9_findOdds 21 = .ok (.if_icmp .ge 21, 3) := by decide +kernel
theorem dX9_findOdds_24 : decode cX9_findOdds 24 = .ok (.aload_n 0, 1) := by decide +kernel
theorem dX9_findOdds_25 : decode cX9_findOdds 25 = .ok (.dup, 1) := by decide +kernel
theorem dX9_findOdds_26 : decode cX9_findOdds 26 = .ok (.getfield 252, 3) := by decide +kernel
theorem dX9_findOdds_29 : decode cX9_findOdds 29 = .ok (.ldc2_w 255, 3) := by decide +kernel
theorem dX9_findOdds_32 : decode cX9_findOdds 32 = .ok (.lmul, 1) := by decide +kernel
theorem dX9_findOdds_33 : decode cX9_findOdds 33 = .ok (.putfield 252, 3) := by decide +kernel
theorem dX9_findOdds_36 : decode cX9_findOdds 36 = .ok (.iinc 5 1, 3) := by decide +kernel
theorem dX9_findOdds_39 : decode cX9_findOdds 39 = .ok (.goto (-21), 3) := by decide +kernel
theorem dX9_findOdds_42 : decode cX9_findOdds 42 = .ok (.iconst 0, 1) := by decide +kernel
theorem dX9_findOdds_43 : decode cX9_findOdds 43 = .ok (.istore 5, 2) := by decide +kernel
theorem dX9_findOdds_45 : decode cX9_findOdds 45 = .ok (.iload 5, 2) := by decide +kernel
theorem dX9_findOdds_47 : decode cX9_findOdds 47 = .ok (.iconst 1, 1) := by decide +kernel
theorem dX9_findOdds_48 : decode cX9_findOdds 48 = .ok (.iload_n 3, 1) := by decide +kernel
theorem dX9_findOdds_49 : decode cX9_findOdds 49 = .ok (.ishl, 1) := by decide +kernel
theorem dX9_findOdds_50 : decode cX9_findOdds 50 = .ok (.if_icmp .ge 125, 3) := by decide +kernel
theorem dX9_findOdds_53 : decode cX9_findOdds 53 = .ok (.lconst 1, 1) := by decide +kernel
theorem dX9_findOdds_54 : decode cX9_findOdds 54 = .ok (.lstore 6, 2) := by decide +kernel
theorem dX9_findOdds_56 : decode cX9_findOdds 56 = .ok (.aload_n 0, 1) := by decide +kernel
theorem dX9_findOdds_57 : decode cX9_findOdds 57 = .ok (.invokevirtual 177, 3) := by decide +kernel
theorem dX9_findOdds_60 : decode cX9_findOdds 60 = .ok (.iconst 0, 1) := by decide +kernel
theorem dX9_findOdds_61 : decode cX9_findOdds 61 = .ok (.istore 8, 2) := by decide +kernel
theorem dX9_findOdds_63 : decode cX9_findOdds 63 = .ok (.iload 8, 2) := by decide +kernel
theorem dX9_findOdds_65 : decode cX9_findOdds 65 = .ok (.iload_n 3, 1) := by decide +kernel
theorem dX9_findOdds_66 : decode cX9_findOdds 66 = .ok (.if_icmp .ge 53, 3) := by decide +kernel
theorem dX9_findOdds_69 : decode cX9_findOdds 69 = .ok (.iload 5, 2) := by decide +kernel
theorem dX9_findOdds_71 : decode cX9_findOdds 71 = .ok (.iload 8, 2) := by decide +kernel
theorem dX9_findOdds_73 : decode cX9_findOdds 73 = .ok (.ishr, 1) := by decide +kernel
theorem dX9_findOdds_74 : decode cX9_findOdds 74 = .ok (.iconst 1, 1) := by decide +kernel
theorem dX9_findOdds_75 : decode cX9_findOdds 75 = .ok (.iand, 1) := by decide +kernel
theorem dX9_findOdds_76 : decode cX9_findOdds 76 = .ok (.iconst 1, 1) := by decide +kernel
theorem dX9_findOdds_77 : decode cX9_findOdds 77 = .ok (.if_icmp .ne 7, 3) := by decide +kernel
theorem dX9_findOdds_80 : decode cX9_findOdds 80 = .ok (.iconst 1, 1) := by decide +kernel
theorem dX9_findOdds_81 : decode cX9_findOdds 81 = .ok (.goto 4, 3) := by decide +kernel
theorem dX9_findOdds_84 : decode cX9_findOdds 84 = .ok (.iconst 0, 1) := by decide +kernel
theorem dX9_findOdds_85 : decode cX9_findOdds 85 = .ok (.istore 9, 2) := by decide +kernel
theorem dX9_findOdds_87 : decode cX9_findOdds 87 = .ok (.lload 6, 2) := by decide +kernel
theorem dX9_findOdds_89 : decode cX9_findOdds 89 = .ok (.iload 9, 2) := by decide +kernel
theorem dX9_findOdds_91 : decode cX9_findOdds 91 = .ok (.ifCond .eq 8, 3) := by decide +kernel
theorem dX9_findOdds_94 : decode cX9_findOdds 94 = .ok (.iload_n 1, 1) := by decide +kernel
theorem dX9_findOdds_95 : decode cX9_findOdds 95 = .ok (.i2l, 1) := by decide +kernel
theorem dX9_findOdds_96 : decode cX9_findOdds 96 = .ok (.goto 8, 3) := by decide +kernel
theorem dX9_findOdds_99 : decode cX9_findOdds 99 = .ok (.bipush 10, 2) := by decide +kernel
theorem dX9_findOdds_101 : decode cX9_findOdds 101 = .ok (.iload_n 1, 1) := by decide +kernel
theorem dX9_findOdds_102 : decode cX9_findOdds 102 = .ok (.isub, 1) := by decide +kernel
theorem dX9_findOdds_103 : decode cX9_findOdds 103 = .ok (.i2l, 1) := by decide +kernel
theorem dX9_findOdds_104 : decode cX9_findOdds 104 = .ok (.lmul, 1) := by decide +kernel
theorem dX9_findOdds_105 : decode cX9_findOdds 105 = .ok (.lstore 6, 2) := by decide +kernel
theorem dX9_findOdds_107 : decode cX9_findOdds 107 = .ok (.aload_n 0, 1) := by decide +kernel
theorem dX9_findOdds_108 : decode cX9_findOdds 108 = .ok (.iload 9, 2) := by decide +kernel
theorem dX9_findOdds_110 : decode cX9_findOdds 110 = .ok (.invokevirtual 167, 3) := by decide +kernel
theorem dX9_findOdds_113 : decode cX9_findOdds 113 = .ok (.iinc 8 1, 3) := by decide +kernel
theorem dX9_findOdds_116 : decode cX9_findOdds 116 = .ok (.goto (-53), 3) := by decide +kernel
theorem dX9_findOdds_119 : decode cX9_findOdds 119 = .ok (.aload_n 0, 1) := by decide +kernel
theorem dX9_findOdds_120 : decode cX9_findOdds 120 = .ok (.dup, 1) := by decide +kernel
theorem dX9_findOdds_121 : decode cX9_findOdds 121 = .ok (.getfield 245, 3) := by decide +kernel
theorem dX9_findOdds_124 : decode cX9_findOdds 124 = .ok (.iload_n 2, 1) := by decide +kernel
theorem dX9_findOdds_125 : decode cX9_findOdds 125 = .ok (.bipush (-4), 2) := by decide +kernel
theorem dX9_findOdds_127 : decode cX9_findOdds 127 = .ok (.if_icmp .eq 19, 3) := by decide +kernel
theorem dX9_findOdds_130 : decode cX9_findOdds 130 = .ok (.aload_n 0, 1) := by decide +kernel
theorem dX9_findOdds_131 : decode cX9_findOdds 131 = .ok (.iload_n 2, 1) := by decide +kernel
theorem dX9_findOdds_132 : decode cX9_findOdds 132 = .ok (.iconst 3, 1) := by decide +kernel
theorem dX9_findOdds_133 : decode cX9_findOdds 133 = .ok (.invokevirtual 136, 3) := by decide +kernel
theorem dX9_findOdds_136 : decode cX9_findOdds 136 = .ok (.iload 4, 2) := by decide +kernel
theorem dX9_findOdds_138 : decode cX9_findOdds 138 = .ok (.if_icmp .lt 8, 3) := by decide +kernel
theorem dX9_findOdds_141 : decode cX9_findOdds 141 = .ok (.lload 6, 2) := by decide +kernel
theorem dX9_findOdds_143 : decode cX9_findOdds 143 = .ok (.goto 4, 3) := by decide +kernel
theorem dX9_findOdds_146 : decode cX9_findOdds 146 = .ok (.lconst 0, 1) := by decide +kernel
theorem dX9_findOdds_147 : decode cX9_findOdds 147 = .ok (.ladd, 1) := by decide +kernel
theorem dX9_findOdds_148 : decode cX9_findOdds 148 = .ok (.putfield 245, 3) := by decide +kernel
theorem dX9_findOdds_151 : decode cX9_findOdds 151 = .ok (.aload_n 0, 1) := by decide +kernel
theorem dX9_findOdds_152 : decode cX9_findOdds 152 = .ok (.dup, 1) := by decide +kernel
theorem dX9_findOdds_153 : decode cX9_findOdds 153 = .ok (.getfield 249, 3) := by decide +kernel
theorem dX9_findOdds_156 : decode cX9_findOdds 156 = .ok (.lload 6, 2) := by decide +kernel
theorem dX9_findOdds_158 : decode cX9_findOdds 158 = .ok (.aload_n 0, 1) := by decide +kernel
theorem dX9_findOdds_159 : decode cX9_findOdds 159 = .ok (.iconst 3, 1) := by decide +kernel
theorem dX9_findOdds_160 : decode cX9_findOdds 160 = .ok (.invokevirtual 174, 3) := by decide +kernel
theorem dX9_findOdds_163 : decode cX9_findOdds 163 = .ok (.i2l, 1) := by decide +kernel
theorem dX9_findOdds_164 : decode cX9_findOdds 164 = .ok (.lmul, 1) := by decide +kernel
theorem dX9_findOdds_165 : decode cX9_findOdds 165 = .ok (.ladd, 1) := by decide +kernel
theorem dX9_findOdds_166 : decode cX9_findOdds 166 = .ok (.putfield 249, 3) := by decide +kernel
theorem dX9_findOdds_169 : decode cX9_findOdds 169 = .ok (.iinc 5 1, 3) := by decide +kernel
theorem dX9_findOdds_172 : decode cX9_findOdds 172 = .ok (.goto (-127), 3) := by decide +kernel
theorem dX9_findOdds_175 : decode cX9_findOdds 175 = .ok (.return_, 1) := by decide +kernel
def f_X9_findOdds_L18 (Λ : List Ly) (p0 : Nat) (v1 : Int32) (v2 : Int32) (v3 : Int32) (v4 : Int32) (k42 : Int32 → Dt → Option Dt) : Nat → Int32 → Dt → Option Dt
  | 0, _, _ => none
  | n + 1, v5, d => if v3 ≤ v5 then (k42 v5 d) else (if clsAt Λ p0 = some 9 then (f_X9_findOdds_L18 Λ p0 v1 v2 v3 v4 k42 n (v5 + (1 : Int32)) (pJ d p0 17 ((d.2 p0 17) * (10 : Int64)))) else none)
def f_X9_findOdds_J85 (Λ : List Ly) (d : Dt) (kb : Int64 → Int32 → Dt → Option Dt) (k119 : Int64 → Int32 → Dt → Option Dt) (p0 : Nat) (v1 : Int32) (v2 : Int32) (v3 : Int32) (v4 : Int32) (v5 : Int32) (v6 : Int64) (v8 : Int32) (y0 : Int32) : Option Dt := if y0 = 0 then (if clsAt Λ p0 = some 9 then (Option.bind (f_X9_weekGoes Λ d p0 y0) fun z12 => kb (v6 * (((10 : Int32) - v1)).toInt64) (v8 + (1 : Int32)) z12) else none) else (if clsAt Λ p0 = some 9 then (Option.bind (f_X9_weekGoes Λ d p0 y0) fun z14 => kb (v6 * (v1).toInt64) (v8 + (1 : Int32)) z14) else none)
def f_X9_findOdds_L63 (Λ : List Ly) (p0 : Nat) (v1 : Int32) (v2 : Int32) (v3 : Int32) (v4 : Int32) (v5 : Int32) (k119 : Int64 → Int32 → Dt → Option Dt) : Nat → Int64 → Int32 → Dt → Option Dt
  | 0, _, _, _ => none
  | n + 1, v6, v8, d => if v3 ≤ v8 then (k119 v6 v8 d) else (if ((v5 >>> (v8 &&& 31)) &&& (1 : Int32)) = (1 : Int32) then (f_X9_findOdds_J85 Λ d (f_X9_findOdds_L63 Λ p0 v1 v2 v3 v4 v5 k119 n) k119 p0 v1 v2 v3 v4 v5 v6 v8 (1 : Int32)) else (f_X9_findOdds_J85 Λ d (f_X9_findOdds_L63 Λ p0 v1 v2 v3 v4 v5 k119 n) k119 p0 v1 v2 v3 v4 v5 v6 v8 (0 : Int32)))
def f_X9_findOdds_J147 (Λ : List Ly) (d : Dt) (kb : Int32 → Dt → Option Dt) (p0 : Nat) (v1 : Int32) (v2 : Int32) (v3 : Int32) (v4 : Int32) (v5 : Int32) (v6 : Int64) (y0 : Int64) (y1 : Int64) (y2 : Nat) : Option Dt := if clsAt Λ y2 = some 9 then (if clsAt Λ p0 = some 9 then (Option.bind (f_X9_sumOf Λ (pJ d y2 15 (y1 + y0)) p0 (3 : Int32)) fun z19 => kb (v5 + (1 : Int32)) (pJ (pJ d y2 15 (y1 + y0)) p0 16 (((pJ d y2 15 (y1 + y0)).2 p0 16) + (v6 * (z19).toInt64)))) else none) else none
def f_X9_findOdds_J146 (Λ : List Ly) (d : Dt) (kb : Int32 → Dt → Option Dt) (p0 : Nat) (v1 : Int32) (v2 : Int32) (v3 : Int32) (v4 : Int32) (v5 : Int32) (v6 : Int64) (y0 : Int64) (y1 : Nat) : Option Dt := f_X9_findOdds_J147 Λ d kb p0 v1 v2 v3 v4 v5 v6 (0 : Int64) y0 y1
def f_X9_findOdds_L45 (Λ : List Ly) (p0 : Nat) (v1 : Int32) (v2 : Int32) (v3 : Int32) (v4 : Int32) : Nat → Int32 → Dt → Option Dt
  | 0, _, _ => none
  | n + 1, v5, d => if ((1 : Int32) <<< (v3 &&& 31)) ≤ v5 then (some d) else (if clsAt Λ p0 = some 9 then (Option.bind (f_X9_starts Λ d p0) fun z7 => f_X9_findOdds_L63 Λ p0 v1 v2 v3 v4 v5 (fun x15_6 x15_8 d15 => if v2 = (-4 : Int32) then (f_X9_findOdds_J146 Λ d15 (f_X9_findOdds_L45 Λ p0 v1 v2 v3 v4 n) p0 v1 v2 v3 v4 v5 x15_6 (d15.2 p0 15) p0) else (Option.bind (f_X9_of Λ d15 p0 v2 (3 : Int32)) fun z20 => if z20 < v4 then (f_X9_findOdds_J146 Λ d15 (f_X9_findOdds_L45 Λ p0 v1 v2 v3 v4 n) p0 v1 v2 v3 v4 v5 x15_6 (d15.2 p0 15) p0) else (f_X9_findOdds_J147 Λ d15 (f_X9_findOdds_L45 Λ p0 v1 v2 v3 v4 n) p0 v1 v2 v3 v4 v5 x15_6 x15_6 (d15.2 p0 15) p0))) FU (1 : Int64) (0 : Int32) z7) else none)
def f_X9_findOdds (Λ : List Ly) (d : Dt) (p0 : Nat) (v1 : Int32) (v2 : Int32) (v3 : Int32) (v4 : Int32) : Option Dt := if clsAt Λ p0 = some 9 then (f_X9_findOdds_L18 Λ p0 v1 v2 v3 v4 (fun x4_5 d4 => f_X9_findOdds_L45 Λ p0 v1 v2 v3 v4 FU (0 : Int32) d4) FU (0 : Int32) (pJ (pJ (pJ d p0 15 (0 : Int64)) p0 16 (0 : Int64)) p0 17 (1 : Int64))) else none
set_option maxHeartbeats 4000000 in
set_option maxRecDepth 100000 in
theorem w_X9_findOdds_L18 {p : Program} {l : Launch} {e : Env} {s : State} {m : MethodId} {args : Array Value} {below : List Frame} {meth : Method} {c : Code} {Γ : Cx} {Λ : List Ly} {z : Dt} (C0 : Ct Γ p s m args c cX9_findOdds 10 "SeasonBoundModel") (hr : meth.sig.returnType = none) (hlocks : meth.locks = false) (k42 : Int32 → Dt → Option Dt) (p0 : Nat) (v1 : Int32) (v2 : Int32) (v3 : Int32) (v4 : Int32)
    (hk42 : ∀ (v5 : Int32) (d : Dt), (k42 v5 d = some z) → ∀ (H : Heap) (locs : List Loc) (ls : Array Slot), Hs Γ Λ d s H locs → lv_has ls 10 [(0, .ref (ad Γ.2.2.1 p0)), (1, .int v1), (2, .int v2), (3, .int v3), (4, .int v4), (5, .int v5)] → W p l e { frames := 5, cells := 0, slots := 0, locals := 109 } s m args below meth c H locs 0 0 (MQ below (QN Γ Λ z none) args s 0 0 (AP Γ)) (F0 m 42 ls [])) :
    ∀ (n : Nat) (v5 : Int32) (d : Dt), f_X9_findOdds_L18 Λ p0 v1 v2 v3 v4 k42 n v5 d = some z → ∀ (H : Heap) (locs : List Loc) (ls : Array Slot), Hs Γ Λ d s H locs → lv_has ls 10 [(0, .ref (ad Γ.2.2.1 p0)), (1, .int v1), (2, .int v2), (3, .int v3), (4, .int v4), (5, .int v5)] → W p l e { frames := 5, cells := 0, slots := 0, locals := 109 } s m args below meth c H locs 0 0 (MQ below (QN Γ Λ z none) args s 0 0 (AP Γ)) (F0 m 18 ls []) := by
  obtain ⟨hx, hb, hml, hown, hts, hK⟩ := id C0
  intro n
  induction n with
  | zero =>
    intro v5 d hf
    cases hf
  | succ n ih =>
    intro v5 d hf H locs ls hH hl
    unfold f_X9_findOdds_L18 at hf
    refine lv_iload hx hb dX9_findOdds_18 (lv_at hl 5 rfl) ?_
    refine lv_iload_n hx hb dX9_findOdds_20 rfl (lv_at hl 3 rfl) ?_
    refine lv_icmp_ge (tgt := 42) hx hb dX9_findOdds_21 (by decide) (fun c2 => ?_) (fun c2 => ?_)
    · replace hf := it hf c2
      exact hk42 v5 d hf _ _ _ hH (lv_sub hl [0, 1, 2, 3, 4, 5] rfl)
    · replace hf := ie hf c2
      refine lv_aload_n hx hb dX9_findOdds_24 rfl (lv_at hl 0 rfl) ?_
      refine lv_dup hx hb dX9_findOdds_25 rfl ?_
      obtain ⟨g3, hf⟩ := gd hf
      refine r_getj C0 hH fl_X9_252 g3 rfl dX9_findOdds_26 ?_
      refine lv_ldc2 hx hb hown (hts _ kl_X9_255) dX9_findOdds_29 ?_
      refine lv_lmul hx hb dX9_findOdds_32 ?_
      refine r_putj C0 hH fw_X9_252 g3 rfl dX9_findOdds_33 (fun H locs hH => ?_)
      refine lv_iinc (v := (v5 + (1 : Int32))) (lv' := [(5, .int (v5 + (1 : Int32))), (0, .ref (ad Γ.2.2.1 p0)), (1, .int v1), (2, .int v2), (3, .int v3), (4, .int v4)]) hx hb dX9_findOdds_36 hl (k := 5) rfl (congrArg (fun w => v5 + w) (by decide)) (by decide) rfl (fun ls hl => ?_)
      refine lv_goto (tgt := 18) hx hb dX9_findOdds_39 (by decide) ?_
      exact ih (v5 + (1 : Int32)) (pJ d p0 17 ((d.2 p0 17) * (10 : Int64))) hf _ _ _ hH (lv_sub hl [1, 2, 3, 4, 5, 0] rfl)
set_option maxHeartbeats 4000000 in
set_option maxRecDepth 100000 in
theorem w_X9_findOdds_J85 {p : Program} {l : Launch} {e : Env} {s : State} {m : MethodId} {args : Array Value} {below : List Frame} {meth : Method} {c : Code} {Γ : Cx} {Λ : List Ly} {z : Dt} {d : Dt} (C0 : Ct Γ p s m args c cX9_findOdds 10 "SeasonBoundModel") (hr : meth.sig.returnType = none) (hlocks : meth.locks = false) (kb : Int64 → Int32 → Dt → Option Dt) (k119 : Int64 → Int32 → Dt → Option Dt) (p0 : Nat) (v1 : Int32) (v2 : Int32) (v3 : Int32) (v4 : Int32) (v5 : Int32) (v6 : Int64) (v8 : Int32) (y0 : Int32)
    (hkb : ∀ (w0 : Int64) (w1 : Int32) (d : Dt), (kb w0 w1 d = some z) → ∀ (H : Heap) (locs : List Loc) (ls : Array Slot), Hs Γ Λ d s H locs → lv_has ls 10 [(0, .ref (ad Γ.2.2.1 p0)), (1, .int v1), (2, .int v2), (3, .int v3), (4, .int v4), (5, .int v5), (6, .long w0), (8, .int w1)] → W p l e { frames := 5, cells := 0, slots := 0, locals := 109 } s m args below meth c H locs 0 0 (MQ below (QN Γ Λ z none) args s 0 0 (AP Γ)) (F0 m 63 ls []))
    (hk119 : ∀ (w0 : Int64) (w1 : Int32) (d : Dt), (k119 w0 w1 d = some z) → ∀ (H : Heap) (locs : List Loc) (ls : Array Slot), Hs Γ Λ d s H locs → lv_has ls 10 [(0, .ref (ad Γ.2.2.1 p0)), (1, .int v1), (2, .int v2), (3, .int v3), (4, .int v4), (5, .int v5), (6, .long w0), (8, .int w1)] → W p l e { frames := 5, cells := 0, slots := 0, locals := 109 } s m args below meth c H locs 0 0 (MQ below (QN Γ Λ z none) args s 0 0 (AP Γ)) (F0 m 119 ls []))
    (hf : f_X9_findOdds_J85 Λ d kb k119 p0 v1 v2 v3 v4 v5 v6 v8 y0 = some z) (H : Heap) (locs : List Loc) (ls : Array Slot) (hH : Hs Γ Λ d s H locs) (hl : lv_has ls 10 [(0, .ref (ad Γ.2.2.1 p0)), (1, .int v1), (2, .int v2), (3, .int v3), (4, .int v4), (5, .int v5), (6, .long v6), (8, .int v8)]) : W p l e { frames := 5, cells := 0, slots := 0, locals := 109 } s m args below meth c H locs 0 0 (MQ below (QN Γ Λ z none) args s 0 0 (AP Γ)) (F0 m 85 ls [.int y0]) := by
  obtain ⟨hx, hb, hml, hown, hts, hK⟩ := id C0
  unfold f_X9_findOdds_J85 at hf
  refine lv_istore (lv' := [(9, .int y0), (0, .ref (ad Γ.2.2.1 p0)), (1, .int v1), (2, .int v2), (3, .int v3), (4, .int v4), (5, .int v5), (6, .long v6), (8, .int v8)]) hx hb dX9_findOdds_85 hl (by decide) rfl (fun ls hl => ?_)
  refine lv_lload hx hb dX9_findOdds_87 (lv_at hl 7 rfl) ?_
  refine lv_iload hx hb dX9_findOdds_89 (lv_at hl 0 rfl) ?_
  refine lv_if_eq (tgt := 99) hx hb dX9_findOdds_91 (by decide) (fun c10 => ?_) (fun c10 => ?_)
  · replace hf := it hf c10
    refine lv_bipush (v := (10 : Int32)) hx hb dX9_findOdds_99 (by decide) ?_
    refine lv_iload_n hx hb dX9_findOdds_101 rfl (lv_at hl 2 rfl) ?_
    refine lv_isub hx hb dX9_findOdds_102 ?_
    refine lv_i2l (v := (((10 : Int32) - v1)).toInt64) hx hb dX9_findOdds_103 rfl ?_
    refine lv_lmul hx hb dX9_findOdds_104 ?_
    refine lv_lstore (lv' := [(6, .long (v6 * (((10 : Int32) - v1)).toInt64)), (9, .int y0), (0, .ref (ad Γ.2.2.1 p0)), (1, .int v1), (2, .int v2), (3, .int v3), (4, .int v4), (5, .int v5), (8, .int v8)]) hx hb dX9_findOdds_105 hl (by decide) rfl (fun ls hl => ?_)
    refine lv_aload_n hx hb dX9_findOdds_107 rfl (lv_at hl 2 rfl) ?_
    refine lv_iload hx hb dX9_findOdds_108 (lv_at hl 1 rfl) ?_
    obtain ⟨g11, hf⟩ := gd hf
    obtain ⟨z12, h12, hf⟩ := ob hf
    refine r_callVv (rest := []) C0 hH (c_X9_weekGoes Γ l Λ d p0 y0 z12 h12) cv_X9_167 g11 (by decide) rfl hl.1 rfl (Nat.le_of_ble_eq_true rfl) dX9_findOdds_110 (by decide) (fun H locs hH => ?_)
    refine lv_iinc (v := (v8 + (1 : Int32))) (lv' := [(8, .int (v8 + (1 : Int32))), (6, .long (v6 * (((10 : Int32) - v1)).toInt64)), (9, .int y0), (0, .ref (ad Γ.2.2.1 p0)), (1, .int v1), (2, .int v2), (3, .int v3), (4, .int v4), (5, .int v5)]) hx hb dX9_findOdds_113 hl (k := 8) rfl (congrArg (fun w => v8 + w) (by decide)) (by decide) rfl (fun ls hl => ?_)
    refine lv_goto (tgt := 63) hx hb dX9_findOdds_116 (by decide) ?_
    exact hkb (v6 * (((10 : Int32) - v1)).toInt64) (v8 + (1 : Int32)) z12 hf _ _ _ hH (lv_sub hl [3, 4, 5, 6, 7, 8, 1, 0] rfl)
  · replace hf := ie hf c10
    refine lv_iload_n hx hb dX9_findOdds_94 rfl (lv_at hl 2 rfl) ?_
    refine lv_i2l (v := (v1).toInt64) hx hb dX9_findOdds_95 rfl ?_
    refine lv_goto (tgt := 104) hx hb dX9_findOdds_96 (by decide) ?_
    refine lv_lmul hx hb dX9_findOdds_104 ?_
    refine lv_lstore (lv' := [(6, .long (v6 * (v1).toInt64)), (9, .int y0), (0, .ref (ad Γ.2.2.1 p0)), (1, .int v1), (2, .int v2), (3, .int v3), (4, .int v4), (5, .int v5), (8, .int v8)]) hx hb dX9_findOdds_105 hl (by decide) rfl (fun ls hl => ?_)
    refine lv_aload_n hx hb dX9_findOdds_107 rfl (lv_at hl 2 rfl) ?_
    refine lv_iload hx hb dX9_findOdds_108 (lv_at hl 1 rfl) ?_
    obtain ⟨g13, hf⟩ := gd hf
    obtain ⟨z14, h14, hf⟩ := ob hf
    refine r_callVv (rest := []) C0 hH (c_X9_weekGoes Γ l Λ d p0 y0 z14 h14) cv_X9_167 g13 (by decide) rfl hl.1 rfl (Nat.le_of_ble_eq_true rfl) dX9_findOdds_110 (by decide) (fun H locs hH => ?_)
    refine lv_iinc (v := (v8 + (1 : Int32))) (lv' := [(8, .int (v8 + (1 : Int32))), (6, .long (v6 * (v1).toInt64)), (9, .int y0), (0, .ref (ad Γ.2.2.1 p0)), (1, .int v1), (2, .int v2), (3, .int v3), (4, .int v4), (5, .int v5)]) hx hb dX9_findOdds_113 hl (k := 8) rfl (congrArg (fun w => v8 + w) (by decide)) (by decide) rfl (fun ls hl => ?_)
    refine lv_goto (tgt := 63) hx hb dX9_findOdds_116 (by decide) ?_
    exact hkb (v6 * (v1).toInt64) (v8 + (1 : Int32)) z14 hf _ _ _ hH (lv_sub hl [3, 4, 5, 6, 7, 8, 1, 0] rfl)
set_option maxHeartbeats 4000000 in
set_option maxRecDepth 100000 in
theorem w_X9_findOdds_L63 {p : Program} {l : Launch} {e : Env} {s : State} {m : MethodId} {args : Array Value} {below : List Frame} {meth : Method} {c : Code} {Γ : Cx} {Λ : List Ly} {z : Dt} (C0 : Ct Γ p s m args c cX9_findOdds 10 "SeasonBoundModel") (hr : meth.sig.returnType = none) (hlocks : meth.locks = false) (k119 : Int64 → Int32 → Dt → Option Dt) (p0 : Nat) (v1 : Int32) (v2 : Int32) (v3 : Int32) (v4 : Int32) (v5 : Int32)
    (hk119 : ∀ (v6 : Int64) (v8 : Int32) (d : Dt), (k119 v6 v8 d = some z) → ∀ (H : Heap) (locs : List Loc) (ls : Array Slot), Hs Γ Λ d s H locs → lv_has ls 10 [(0, .ref (ad Γ.2.2.1 p0)), (1, .int v1), (2, .int v2), (3, .int v3), (4, .int v4), (5, .int v5), (6, .long v6), (8, .int v8)] → W p l e { frames := 5, cells := 0, slots := 0, locals := 109 } s m args below meth c H locs 0 0 (MQ below (QN Γ Λ z none) args s 0 0 (AP Γ)) (F0 m 119 ls [])) :
    ∀ (n : Nat) (v6 : Int64) (v8 : Int32) (d : Dt), f_X9_findOdds_L63 Λ p0 v1 v2 v3 v4 v5 k119 n v6 v8 d = some z → ∀ (H : Heap) (locs : List Loc) (ls : Array Slot), Hs Γ Λ d s H locs → lv_has ls 10 [(0, .ref (ad Γ.2.2.1 p0)), (1, .int v1), (2, .int v2), (3, .int v3), (4, .int v4), (5, .int v5), (6, .long v6), (8, .int v8)] → W p l e { frames := 5, cells := 0, slots := 0, locals := 109 } s m args below meth c H locs 0 0 (MQ below (QN Γ Λ z none) args s 0 0 (AP Γ)) (F0 m 63 ls []) := by
  obtain ⟨hx, hb, hml, hown, hts, hK⟩ := id C0
  intro n
  induction n with
  | zero =>
    intro v6 v8 d hf
    cases hf
  | succ n ih =>
    intro v6 v8 d hf H locs ls hH hl
    unfold f_X9_findOdds_L63 at hf
    refine lv_iload hx hb dX9_findOdds_63 (lv_at hl 7 rfl) ?_
    refine lv_iload_n hx hb dX9_findOdds_65 rfl (lv_at hl 3 rfl) ?_
    refine lv_icmp_ge (tgt := 119) hx hb dX9_findOdds_66 (by decide) (fun c8 => ?_) (fun c8 => ?_)
    · replace hf := it hf c8
      exact hk119 v6 v8 d hf _ _ _ hH (lv_sub hl [0, 1, 2, 3, 4, 5, 6, 7] rfl)
    · replace hf := ie hf c8
      refine lv_iload hx hb dX9_findOdds_69 (lv_at hl 5 rfl) ?_
      refine lv_iload hx hb dX9_findOdds_71 (lv_at hl 7 rfl) ?_
      refine lv_ishr hx hb dX9_findOdds_73 ?_
      refine lv_iconst (v := (1 : Int32)) hx hb dX9_findOdds_74 (by decide) ?_
      refine lv_iand hx hb dX9_findOdds_75 ?_
      refine lv_iconst (v := (1 : Int32)) hx hb dX9_findOdds_76 (by decide) ?_
      refine lv_icmp_ne (tgt := 84) hx hb dX9_findOdds_77 (by decide) (fun c9 => ?_) (fun c9 => ?_)
      · replace hf := ie hf c9
        refine lv_iconst (v := (0 : Int32)) hx hb dX9_findOdds_84 (by decide) ?_
        exact w_X9_findOdds_J85 C0 hr hlocks _ _ p0 v1 v2 v3 v4 v5 v6 v8 (0 : Int32) ih hk119 hf _ _ _ hH (lv_sub hl [0, 1, 2, 3, 4, 5, 6, 7] rfl)
      · replace hf := it hf c9
        refine lv_iconst (v := (1 : Int32)) hx hb dX9_findOdds_80 (by decide) ?_
        refine lv_goto (tgt := 85) hx hb dX9_findOdds_81 (by decide) ?_
        exact w_X9_findOdds_J85 C0 hr hlocks _ _ p0 v1 v2 v3 v4 v5 v6 v8 (1 : Int32) ih hk119 hf _ _ _ hH (lv_sub hl [0, 1, 2, 3, 4, 5, 6, 7] rfl)
set_option maxHeartbeats 4000000 in
set_option maxRecDepth 100000 in
theorem w_X9_findOdds_J147 {p : Program} {l : Launch} {e : Env} {s : State} {m : MethodId} {args : Array Value} {below : List Frame} {meth : Method} {c : Code} {Γ : Cx} {Λ : List Ly} {z : Dt} {d : Dt} (C0 : Ct Γ p s m args c cX9_findOdds 10 "SeasonBoundModel") (hr : meth.sig.returnType = none) (hlocks : meth.locks = false) (kb : Int32 → Dt → Option Dt) (p0 : Nat) (v1 : Int32) (v2 : Int32) (v3 : Int32) (v4 : Int32) (v5 : Int32) (v6 : Int64) (y0 : Int64) (y1 : Int64) (y2 : Nat)
    (hkb : ∀ (w0 : Int32) (d : Dt), (kb w0 d = some z) → ∀ (H : Heap) (locs : List Loc) (ls : Array Slot), Hs Γ Λ d s H locs → lv_has ls 10 [(0, .ref (ad Γ.2.2.1 p0)), (1, .int v1), (2, .int v2), (3, .int v3), (4, .int v4), (5, .int w0)] → W p l e { frames := 5, cells := 0, slots := 0, locals := 109 } s m args below meth c H locs 0 0 (MQ below (QN Γ Λ z none) args s 0 0 (AP Γ)) (F0 m 45 ls []))
    (hf : f_X9_findOdds_J147 Λ d kb p0 v1 v2 v3 v4 v5 v6 y0 y1 y2 = some z) (H : Heap) (locs : List Loc) (ls : Array Slot) (hH : Hs Γ Λ d s H locs) (hl : lv_has ls 10 [(0, .ref (ad Γ.2.2.1 p0)), (1, .int v1), (2, .int v2), (3, .int v3), (4, .int v4), (5, .int v5), (6, .long v6)]) : W p l e { frames := 5, cells := 0, slots := 0, locals := 109 } s m args below meth c H locs 0 0 (MQ below (QN Γ Λ z none) args s 0 0 (AP Γ)) (F0 m 147 ls [.long y0, .long y1, .ref (ad Γ.2.2.1 y2)]) := by
  obtain ⟨hx, hb, hml, hown, hts, hK⟩ := id C0
  unfold f_X9_findOdds_J147 at hf
  refine lv_ladd hx hb dX9_findOdds_147 ?_
  obtain ⟨g17, hf⟩ := gd hf
  refine r_putj C0 hH fw_X9_245 g17 rfl dX9_findOdds_148 (fun H locs hH => ?_)
  refine lv_aload_n hx hb dX9_findOdds_151 rfl (lv_at hl 0 rfl) ?_
  refine lv_dup hx hb dX9_findOdds_152 rfl ?_
  obtain ⟨g18, hf⟩ := gd hf
  refine r_getj C0 hH fl_X9_249 g18 rfl dX9_findOdds_153 ?_
  refine lv_lload hx hb dX9_findOdds_156 (lv_at hl 6 rfl) ?_
  refine lv_aload_n hx hb dX9_findOdds_158 rfl (lv_at hl 0 rfl) ?_
  refine lv_iconst (v := (3 : Int32)) hx hb dX9_findOdds_159 (by decide) ?_
  obtain ⟨z19, h19, hf⟩ := ob hf
  refine r_callVi (rest := [.long v6, .long ((pJ d y2 15 (y1 + y0)).2 p0 16), .ref (ad Γ.2.2.1 p0)]) C0 hH (c_X9_sumOf Γ l Λ (pJ d y2 15 (y1 + y0)) p0 (3 : Int32) z19 h19) cv_X9_174 g18 (by decide) rfl hl.1 rfl (Nat.le_of_ble_eq_true rfl) dX9_findOdds_160 (by decide) (fun H locs hH => ?_)
  refine lv_i2l (v := (z19).toInt64) hx hb dX9_findOdds_163 rfl ?_
  refine lv_lmul hx hb dX9_findOdds_164 ?_
  refine lv_ladd hx hb dX9_findOdds_165 ?_
  refine r_putj C0 hH fw_X9_249 g18 rfl dX9_findOdds_166 (fun H locs hH => ?_)
  refine lv_iinc (v := (v5 + (1 : Int32))) (lv' := [(5, .int (v5 + (1 : Int32))), (0, .ref (ad Γ.2.2.1 p0)), (1, .int v1), (2, .int v2), (3, .int v3), (4, .int v4), (6, .long v6)]) hx hb dX9_findOdds_169 hl (k := 5) rfl (congrArg (fun w => v5 + w) (by decide)) (by decide) rfl (fun ls hl => ?_)
  refine lv_goto (tgt := 45) hx hb dX9_findOdds_172 (by decide) ?_
  exact hkb (v5 + (1 : Int32)) (pJ (pJ d y2 15 (y1 + y0)) p0 16 (((pJ d y2 15 (y1 + y0)).2 p0 16) + (v6 * (z19).toInt64))) hf _ _ _ hH (lv_sub hl [1, 2, 3, 4, 5, 0] rfl)
set_option maxHeartbeats 4000000 in
set_option maxRecDepth 100000 in
theorem w_X9_findOdds_J146 {p : Program} {l : Launch} {e : Env} {s : State} {m : MethodId} {args : Array Value} {below : List Frame} {meth : Method} {c : Code} {Γ : Cx} {Λ : List Ly} {z : Dt} {d : Dt} (C0 : Ct Γ p s m args c cX9_findOdds 10 "SeasonBoundModel") (hr : meth.sig.returnType = none) (hlocks : meth.locks = false) (kb : Int32 → Dt → Option Dt) (p0 : Nat) (v1 : Int32) (v2 : Int32) (v3 : Int32) (v4 : Int32) (v5 : Int32) (v6 : Int64) (y0 : Int64) (y1 : Nat)
    (hkb : ∀ (w0 : Int32) (d : Dt), (kb w0 d = some z) → ∀ (H : Heap) (locs : List Loc) (ls : Array Slot), Hs Γ Λ d s H locs → lv_has ls 10 [(0, .ref (ad Γ.2.2.1 p0)), (1, .int v1), (2, .int v2), (3, .int v3), (4, .int v4), (5, .int w0)] → W p l e { frames := 5, cells := 0, slots := 0, locals := 109 } s m args below meth c H locs 0 0 (MQ below (QN Γ Λ z none) args s 0 0 (AP Γ)) (F0 m 45 ls []))
    (hf : f_X9_findOdds_J146 Λ d kb p0 v1 v2 v3 v4 v5 v6 y0 y1 = some z) (H : Heap) (locs : List Loc) (ls : Array Slot) (hH : Hs Γ Λ d s H locs) (hl : lv_has ls 10 [(0, .ref (ad Γ.2.2.1 p0)), (1, .int v1), (2, .int v2), (3, .int v3), (4, .int v4), (5, .int v5), (6, .long v6)]) : W p l e { frames := 5, cells := 0, slots := 0, locals := 109 } s m args below meth c H locs 0 0 (MQ below (QN Γ Λ z none) args s 0 0 (AP Γ)) (F0 m 146 ls [.long y0, .ref (ad Γ.2.2.1 y1)]) := by
  obtain ⟨hx, hb, hml, hown, hts, hK⟩ := id C0
  unfold f_X9_findOdds_J146 at hf
  refine lv_lconst (v := (0 : Int64)) hx hb dX9_findOdds_146 (by decide) ?_
  exact w_X9_findOdds_J147 C0 hr hlocks _ p0 v1 v2 v3 v4 v5 v6 (0 : Int64) y0 y1 hkb hf _ _ _ hH (lv_sub hl [0, 1, 2, 3, 4, 5, 6] rfl)
set_option maxHeartbeats 4000000 in
set_option maxRecDepth 100000 in
theorem w_X9_findOdds_L45 {p : Program} {l : Launch} {e : Env} {s : State} {m : MethodId} {args : Array Value} {below : List Frame} {meth : Method} {c : Code} {Γ : Cx} {Λ : List Ly} {z : Dt} (C0 : Ct Γ p s m args c cX9_findOdds 10 "SeasonBoundModel") (hr : meth.sig.returnType = none) (hlocks : meth.locks = false) (p0 : Nat) (v1 : Int32) (v2 : Int32) (v3 : Int32) (v4 : Int32) :
    ∀ (n : Nat) (v5 : Int32) (d : Dt), f_X9_findOdds_L45 Λ p0 v1 v2 v3 v4 n v5 d = some z → ∀ (H : Heap) (locs : List Loc) (ls : Array Slot), Hs Γ Λ d s H locs → lv_has ls 10 [(0, .ref (ad Γ.2.2.1 p0)), (1, .int v1), (2, .int v2), (3, .int v3), (4, .int v4), (5, .int v5)] → W p l e { frames := 5, cells := 0, slots := 0, locals := 109 } s m args below meth c H locs 0 0 (MQ below (QN Γ Λ z none) args s 0 0 (AP Γ)) (F0 m 45 ls []) := by
  obtain ⟨hx, hb, hml, hown, hts, hK⟩ := id C0
  intro n
  induction n with
  | zero =>
    intro v5 d hf
    cases hf
  | succ n ih =>
    intro v5 d hf H locs ls hH hl
    unfold f_X9_findOdds_L45 at hf
    refine lv_iload hx hb dX9_findOdds_45 (lv_at hl 5 rfl) ?_
    refine lv_iconst (v := (1 : Int32)) hx hb dX9_findOdds_47 (by decide) ?_
    refine lv_iload_n hx hb dX9_findOdds_48 rfl (lv_at hl 3 rfl) ?_
    refine lv_ishl hx hb dX9_findOdds_49 ?_
    refine lv_icmp_ge (tgt := 175) hx hb dX9_findOdds_50 (by decide) (fun c5 => ?_) (fun c5 => ?_)
    · replace hf := it hf c5
      obtain rfl := Option.some.inj hf
      exact r_vret C0 hr hlocks hH dX9_findOdds_175
    · replace hf := ie hf c5
      refine lv_lconst (v := (1 : Int64)) hx hb dX9_findOdds_53 (by decide) ?_
      refine lv_lstore (lv' := [(6, .long (1 : Int64)), (0, .ref (ad Γ.2.2.1 p0)), (1, .int v1), (2, .int v2), (3, .int v3), (4, .int v4), (5, .int v5)]) hx hb dX9_findOdds_54 hl (by decide) rfl (fun ls hl => ?_)
      refine lv_aload_n hx hb dX9_findOdds_56 rfl (lv_at hl 1 rfl) ?_
      obtain ⟨g6, hf⟩ := gd hf
      obtain ⟨z7, h7, hf⟩ := ob hf
      refine r_callVv (rest := []) C0 hH (c_X9_starts Γ l Λ d p0 z7 h7) cv_X9_177 g6 (by decide) rfl hl.1 rfl (Nat.le_of_ble_eq_true rfl) dX9_findOdds_57 (by decide) (fun H locs hH => ?_)
      refine lv_iconst (v := (0 : Int32)) hx hb dX9_findOdds_60 (by decide) ?_
      refine lv_istore (lv' := [(8, .int (0 : Int32)), (6, .long (1 : Int64)), (0, .ref (ad Γ.2.2.1 p0)), (1, .int v1), (2, .int v2), (3, .int v3), (4, .int v4), (5, .int v5)]) hx hb dX9_findOdds_61 hl (by decide) rfl (fun ls hl => ?_)
      refine w_X9_findOdds_L63 C0 hr hlocks _ p0 v1 v2 v3 v4 v5 ?k119 FU (1 : Int64) (0 : Int32) z7 hf _ _ _ hH (lv_sub hl [2, 3, 4, 5, 6, 7, 1, 0] rfl)
      case k119 =>
        intro x15_6 x15_8 d15 hf H locs ls hH hl
        refine lv_aload_n hx hb dX9_findOdds_119 rfl (lv_at hl 0 rfl) ?_
        refine lv_dup hx hb dX9_findOdds_120 rfl ?_
        refine r_getj C0 hH fl_X9_245 g6 rfl dX9_findOdds_121 ?_
        refine lv_iload_n hx hb dX9_findOdds_124 rfl (lv_at hl 2 rfl) ?_
        refine lv_bipush (v := (-4 : Int32)) hx hb dX9_findOdds_125 (by decide) ?_
        refine lv_icmp_eq (tgt := 146) hx hb dX9_findOdds_127 (by decide) (fun c16 => ?_) (fun c16 => ?_)
        · replace hf := it hf c16
          exact w_X9_findOdds_J146 C0 hr hlocks _ p0 v1 v2 v3 v4 v5 x15_6 (d15.2 p0 15) p0 ih hf _ _ _ hH (lv_sub hl [0, 1, 2, 3, 4, 5, 6] rfl)
        · replace hf := ie hf c16
          refine lv_aload_n hx hb dX9_findOdds_130 rfl (lv_at hl 0 rfl) ?_
          refine lv_iload_n hx hb dX9_findOdds_131 rfl (lv_at hl 2 rfl) ?_
          refine lv_iconst (v := (3 : Int32)) hx hb dX9_findOdds_132 (by decide) ?_
          obtain ⟨z20, h20, hf⟩ := ob hf
          refine r_callVi (rest := [.long (d15.2 p0 15), .ref (ad Γ.2.2.1 p0)]) C0 hH (c_X9_of Γ l Λ d15 p0 v2 (3 : Int32) z20 h20) cv_X9_136 g6 (by decide) rfl hl.1 rfl (Nat.le_of_ble_eq_true rfl) dX9_findOdds_133 (by decide) (fun H locs hH => ?_)
          refine lv_iload hx hb dX9_findOdds_136 (lv_at hl 4 rfl) ?_
          refine lv_icmp_lt (tgt := 146) hx hb dX9_findOdds_138 (by decide) (fun c21 => ?_) (fun c21 => ?_)
          · replace hf := it hf c21
            exact w_X9_findOdds_J146 C0 hr hlocks _ p0 v1 v2 v3 v4 v5 x15_6 (d15.2 p0 15) p0 ih hf _ _ _ hH (lv_sub hl [0, 1, 2, 3, 4, 5, 6] rfl)
          · replace hf := ie hf c21
            refine lv_lload hx hb dX9_findOdds_141 (lv_at hl 6 rfl) ?_
            refine lv_goto (tgt := 147) hx hb dX9_findOdds_143 (by decide) ?_
            exact w_X9_findOdds_J147 C0 hr hlocks _ p0 v1 v2 v3 v4 v5 x15_6 x15_6 (d15.2 p0 15) p0 ih hf _ _ _ hH (lv_sub hl [0, 1, 2, 3, 4, 5, 6] rfl)
set_option maxHeartbeats 4000000 in
set_option maxRecDepth 100000 in
theorem c_X9_findOdds (Γ : Cx) (l : Launch) (Λ : List Ly) (d : Dt) (p0 : Nat) (v1 : Int32) (v2 : Int32) (v3 : Int32) (v4 : Int32) (z : Dt) (hf : f_X9_findOdds Λ d p0 v1 v2 v3 v4 = some z) : Cn Γ l yX9_findOdds cX9_findOdds 10 none 5 109 [.ref (ad Γ.2.2.1 p0), .int v1, .int v2, .int v3, .int v4] Λ d none z := by
  refine Cn.of (own := "SeasonBoundModel") (by decide +kernel) rfl (Nat.le_of_ble_eq_true rfl) ?_
  intro p e s m below meth c C0 hr hlocks hH ls hl
  have hl : lv_has ls 10 [(0, .ref (ad Γ.2.2.1 p0)), (1, .int v1), (2, .int v2), (3, .int v3), (4, .int v4)] := hl
  obtain ⟨hx, hb, hml, hown, hts, hK⟩ := id C0
  unfold f_X9_findOdds at hf
  refine lv_aload_n hx hb dX9_findOdds_0 rfl (lv_at hl 0 rfl) ?_
  refine lv_lconst (v := (0 : Int64)) hx hb dX9_findOdds_1 (by decide) ?_
  obtain ⟨g1, hf⟩ := gd hf
  refine r_putj C0 hH fw_X9_245 g1 rfl dX9_findOdds_2 (fun H locs hH => ?_)
  refine lv_aload_n hx hb dX9_findOdds_5 rfl (lv_at hl 0 rfl) ?_
  refine lv_lconst (v := (0 : Int64)) hx hb dX9_findOdds_6 (by decide) ?_
  refine r_putj C0 hH fw_X9_249 g1 rfl dX9_findOdds_7 (fun H locs hH => ?_)
  refine lv_aload_n hx hb dX9_findOdds_10 rfl (lv_at hl 0 rfl) ?_
  refine lv_lconst (v := (1 : Int64)) hx hb dX9_findOdds_11 (by decide) ?_
  refine r_putj C0 hH fw_X9_252 g1 rfl dX9_findOdds_12 (fun H locs hH => ?_)
  refine lv_iconst (v := (0 : Int32)) hx hb dX9_findOdds_15 (by decide) ?_
  refine lv_istore (lv' := [(5, .int (0 : Int32)), (0, .ref (ad Γ.2.2.1 p0)), (1, .int v1), (2, .int v2), (3, .int v3), (4, .int v4)]) hx hb dX9_findOdds_16 hl (by decide) rfl (fun ls hl => ?_)
  refine w_X9_findOdds_L18 C0 hr hlocks _ p0 v1 v2 v3 v4 ?k42 FU (0 : Int32) (pJ (pJ (pJ d p0 15 (0 : Int64)) p0 16 (0 : Int64)) p0 17 (1 : Int64)) hf _ _ _ hH (lv_sub hl [1, 2, 3, 4, 5, 0] rfl)
  case k42 =>
    intro x4_5 d4 hf H locs ls hH hl
    refine lv_iconst (v := (0 : Int32)) hx hb dX9_findOdds_42 (by decide) ?_
    refine lv_istore (lv' := [(5, .int (0 : Int32)), (0, .ref (ad Γ.2.2.1 p0)), (1, .int v1), (2, .int v2), (3, .int v3), (4, .int v4)]) hx hb dX9_findOdds_43 hl (by decide) rfl (fun ls hl => ?_)
    refine w_X9_findOdds_L45 C0 hr hlocks p0 v1 v2 v3 v4 FU (0 : Int32) d4 hf _ _ _ hH (lv_sub hl [1, 2, 3, 4, 5, 0] rfl)
theorem dX9_luck_0 : decode cX9_luck 0 = .ok (.iload_n 1, 1) := by decide +kernel
theorem dX9_luck_1 : decode cX9_luck 1 = .ok (.i2l, 1) := by decide +kernel
theorem dX9_luck_2 : decode cX9_luck 2 = .ok (.lconst 0, 1) := by decide +kernel
theorem dX9_luck_3 : decode cX9_luck 3 = .ok (.ldc2_w 255, 3) := by decide +kernel
theorem dX9_luck_6 : decode cX9_luck 6 = .ok (.invokestatic 56, 3) := by decide +kernel
theorem dX9_luck_9 : decode cX9_luck 9 = .ok (.ifCond .eq 39, 3) := by decide +kernel
theorem dX9_luck_12 : decode cX9_luck 12 = .ok (.aload_n 0, 1) := by decide +kernel
theorem dX9_luck_13 : decode cX9_luck 13 = .ok (.iload_n 2, 1) := by decide +kernel
theorem dX9_luck_14 : decode cX9_luck 14 = .ok (.invokevirtual 180, 3) := by decide +kernel
theorem dX9_luck_17 : decode cX9_luck 17 = .ok (.ifCond .eq 31, 3) := by decide +kernel
theorem dX9_luck_20 : decode cX9_luck 20 = .ok (.iload_n 3, 1) := by decide +kernel
theorem dX9_luck_21 : decode cX9_luck 21 = .ok (.i2l, 1) := by decide +kernel
theorem dX9_luck_22 : decode cX9_luck 22 = .ok (.lconst 0, 1) := by decide +kernel
theorem dX9_luck_23 : decode cX9_luck 23 = .ok (.ldc2_w 257, 3) := by decide +kernel
theorem dX9_luck_26 : decode cX9_luck 26 = .ok (.invokestatic 56, 3) := by decide +kernel
theorem dX9_luck_29 : decode cX9_luck 29 = .ok (.ifCond .eq 19, 3) := by decide +kernel
theorem dX9_luck_32 : decode cX9_luck 32 = .ok (.iload 4, 2) := by decide +kernel
theorem dX9_luck_34 : decode cX9_luck 34 = .ok (.invokestatic 191, 3) := by decide +kernel
theorem dX9_luck_37 : decode cX9_luck 37 = .ok (.ifCond .eq 11, 3) := by decide +kernel
theorem dX9_luck_40 : decode cX9_luck 40 = .ok (.iload 5, 2) := by decide +kernel
theorem dX9_luck_42 : decode cX9_luck 42 = .ok (.invokestatic 228, 3) := by decide +kernel
theorem dX9_luck_45 : decode cX9_luck 45 = .ok (.ifCond .ne 7, 3) := by decide +kernel
theorem dX9_luck_48 : decode cX9_luck 48 = .ok (.ldc2_w 259, 3) := by decide +kernel
theorem dX9_luck_51 : decode cX9_luck 51 = .ok (.lreturn, 1) := by decide +kernel
theorem dX9_luck_52 : decode cX9_luck 52 = .ok (.aload_n 0, 1) := by decide +kernel
theorem dX9_luck_53 : decode cX9_luck 53 = .ok (.iload_n 1, 1) := by decide +kernel
theorem dX9_luck_54 : decode cX9_luck 54 = .ok (.iload_n 2, 1) := by decide +kernel
theorem dX9_luck_55 : decode cX9_luck 55 = .ok (.iload_n 3, 1) := by decide +kernel
theorem dX9_luck_56 : decode cX9_luck 56 = .ok (.iload 4, 2) := by decide +kernel
theorem dX9_luck_58 : decode cX9_luck 58 = .ok (.invokevirtual 261, 3) := by decide +kernel
theorem dX9_luck_61 : decode cX9_luck 61 = .ok (.aload_n 0, 1) := by decide +kernel
theorem dX9_luck_62 : decode cX9_luck 62 = .ok (.getfield 245, 3) := by decide +kernel
theorem dX9_luck_65 : decode cX9_luck 65 = .ok (.aload_n 0, 1) := by decide +kernel
theorem dX9_luck_66 : decode cX9_luck 66 = .ok (.getfield 252, 3) := by decide +kernel
theorem dX9_luck_69 : decode cX9_luck 69 = .ok (.iload 5, 2) := by decide +kernel
theorem dX9_luck_71 : decode cX9_luck 71 = .ok (.invokestatic 265, 3) := by decide +kernel
theorem dX9_luck_74 : decode cX9_luck 74 = .ok (.lreturn, 1) := by decide +kernel
def f_X9_luck (Λ : List Ly) (d : Dt) (p0 : Nat) (v1 : Int32) (v2 : Int32) (v3 : Int32) (v4 : Int32) (v5 : Int32) : Option (Int64 × Dt) := if (f_X9_in (v1).toInt64 (0 : Int64) (10 : Int64)) = 0 then (some ((-1 : Int64), d)) else (if clsAt Λ p0 = some 9 then (Option.bind (f_X9_isChild Λ d p0 v2) fun z3 => if z3 = 0 then (some ((-1 : Int64), d)) else (if (f_X9_in (v3).toInt64 (0 : Int64) (8 : Int64)) = 0 then (some ((-1 : Int64), d)) else (if (f_X9_isSkill v4) = 0 then (some ((-1 : Int64), d)) else (if (f_X9_isPart v5) = 0 then (some ((-1 : Int64), d)) else (Option.bind (f_X9_findOdds Λ d p0 v1 v2 v3 v4) fun z8 => Option.bind (f_X9_told (z8.2 p0 15) (z8.2 p0 17) v5) fun z9 => some (z9, z8)))))) else none)
set_option maxHeartbeats 4000000 in
set_option maxRecDepth 100000 in
theorem c_X9_luck (Γ : Cx) (l : Launch) (Λ : List Ly) (d : Dt) (p0 : Nat) (v1 : Int32) (v2 : Int32) (v3 : Int32) (v4 : Int32) (v5 : Int32) (z : Int64 × Dt) (hf : f_X9_luck Λ d p0 v1 v2 v3 v4 v5 = some z) : Cn Γ l yX9_luck cX9_luck 6 (some FieldType.long) 6 138 [.ref (ad Γ.2.2.1 p0), .int v1, .int v2, .int v3, .int v4, .int v5] Λ d (some (.long z.1)) z.2 := by
  refine Cn.of (own := "SeasonBoundModel") (by decide +kernel) rfl (Nat.le_of_ble_eq_true rfl) ?_
  intro p e s m below meth c C0 hr hlocks hH ls hl
  have hl : lv_has ls 6 [(0, .ref (ad Γ.2.2.1 p0)), (1, .int v1), (2, .int v2), (3, .int v3), (4, .int v4), (5, .int v5)] := hl
  obtain ⟨hx, hb, hml, hown, hts, hK⟩ := id C0
  unfold f_X9_luck at hf
  refine lv_iload_n hx hb dX9_luck_0 rfl (lv_at hl 1 rfl) ?_
  refine lv_i2l (v := (v1).toInt64) hx hb dX9_luck_1 rfl ?_
  refine lv_lconst (v := (0 : Int64)) hx hb dX9_luck_2 (by decide) ?_
  refine lv_ldc2 hx hb hown (hts _ kl_X9_255) dX9_luck_3 ?_
  refine r_callSi (rest := []) C0 hH (c_X9_in Γ l Λ d (v1).toInt64 (0 : Int64) (10 : Int64)) cs_X9_56 (by decide) rfl hl.1 rfl (Nat.le_of_ble_eq_true rfl) dX9_luck_6 (by decide) (fun H locs hH => ?_)
  refine lv_if_eq (tgt := 48) hx hb dX9_luck_9 (by decide) (fun c1 => ?_) (fun c1 => ?_)
  · replace hf := it hf c1
    refine lv_ldc2 hx hb hown (hts _ kl_X9_259) dX9_luck_48 ?_
    obtain rfl := Option.some.inj hf
    exact r_lret C0 hr hlocks hH dX9_luck_51
  · replace hf := ie hf c1
    refine lv_aload_n hx hb dX9_luck_12 rfl (lv_at hl 0 rfl) ?_
    refine lv_iload_n hx hb dX9_luck_13 rfl (lv_at hl 2 rfl) ?_
    obtain ⟨g2, hf⟩ := gd hf
    obtain ⟨z3, h3, hf⟩ := ob hf
    refine r_callVi (rest := []) C0 hH (c_X9_isChild Γ l Λ d p0 v2 z3 h3) cv_X9_180 g2 (by decide) rfl hl.1 rfl (Nat.le_of_ble_eq_true rfl) dX9_luck_14 (by decide) (fun H locs hH => ?_)
    refine lv_if_eq (tgt := 48) hx hb dX9_luck_17 (by decide) (fun c4 => ?_) (fun c4 => ?_)
    · replace hf := it hf c4
      refine lv_ldc2 hx hb hown (hts _ kl_X9_259) dX9_luck_48 ?_
      obtain rfl := Option.some.inj hf
      exact r_lret C0 hr hlocks hH dX9_luck_51
    · replace hf := ie hf c4
      refine lv_iload_n hx hb dX9_luck_20 rfl (lv_at hl 3 rfl) ?_
      refine lv_i2l (v := (v3).toInt64) hx hb dX9_luck_21 rfl ?_
      refine lv_lconst (v := (0 : Int64)) hx hb dX9_luck_22 (by decide) ?_
      refine lv_ldc2 hx hb hown (hts _ kl_X9_257) dX9_luck_23 ?_
      refine r_callSi (rest := []) C0 hH (c_X9_in Γ l Λ d (v3).toInt64 (0 : Int64) (8 : Int64)) cs_X9_56 (by decide) rfl hl.1 rfl (Nat.le_of_ble_eq_true rfl) dX9_luck_26 (by decide) (fun H locs hH => ?_)
      refine lv_if_eq (tgt := 48) hx hb dX9_luck_29 (by decide) (fun c5 => ?_) (fun c5 => ?_)
      · replace hf := it hf c5
        refine lv_ldc2 hx hb hown (hts _ kl_X9_259) dX9_luck_48 ?_
        obtain rfl := Option.some.inj hf
        exact r_lret C0 hr hlocks hH dX9_luck_51
      · replace hf := ie hf c5
        refine lv_iload hx hb dX9_luck_32 (lv_at hl 4 rfl) ?_
        refine r_callSi (rest := []) C0 hH (c_X9_isSkill Γ l Λ d v4) cs_X9_191 (by decide) rfl hl.1 rfl (Nat.le_of_ble_eq_true rfl) dX9_luck_34 (by decide) (fun H locs hH => ?_)
        refine lv_if_eq (tgt := 48) hx hb dX9_luck_37 (by decide) (fun c6 => ?_) (fun c6 => ?_)
        · replace hf := it hf c6
          refine lv_ldc2 hx hb hown (hts _ kl_X9_259) dX9_luck_48 ?_
          obtain rfl := Option.some.inj hf
          exact r_lret C0 hr hlocks hH dX9_luck_51
        · replace hf := ie hf c6
          refine lv_iload hx hb dX9_luck_40 (lv_at hl 5 rfl) ?_
          refine r_callSi (rest := []) C0 hH (c_X9_isPart Γ l Λ d v5) cs_X9_228 (by decide) rfl hl.1 rfl (Nat.le_of_ble_eq_true rfl) dX9_luck_42 (by decide) (fun H locs hH => ?_)
          refine lv_if_ne (tgt := 52) hx hb dX9_luck_45 (by decide) (fun c7 => ?_) (fun c7 => ?_)
          · replace hf := ie hf c7
            refine lv_aload_n hx hb dX9_luck_52 rfl (lv_at hl 0 rfl) ?_
            refine lv_iload_n hx hb dX9_luck_53 rfl (lv_at hl 1 rfl) ?_
            refine lv_iload_n hx hb dX9_luck_54 rfl (lv_at hl 2 rfl) ?_
            refine lv_iload_n hx hb dX9_luck_55 rfl (lv_at hl 3 rfl) ?_
            refine lv_iload hx hb dX9_luck_56 (lv_at hl 4 rfl) ?_
            obtain ⟨z8, h8, hf⟩ := ob hf
            refine r_callVv (rest := []) C0 hH (c_X9_findOdds Γ l Λ d p0 v1 v2 v3 v4 z8 h8) cv_X9_261 g2 (by decide) rfl hl.1 rfl (Nat.le_of_ble_eq_true rfl) dX9_luck_58 (by decide) (fun H locs hH => ?_)
            refine lv_aload_n hx hb dX9_luck_61 rfl (lv_at hl 0 rfl) ?_
            refine r_getj C0 hH fl_X9_245 g2 rfl dX9_luck_62 ?_
            refine lv_aload_n hx hb dX9_luck_65 rfl (lv_at hl 0 rfl) ?_
            refine r_getj C0 hH fl_X9_252 g2 rfl dX9_luck_66 ?_
            refine lv_iload hx hb dX9_luck_69 (lv_at hl 5 rfl) ?_
            obtain ⟨z9, h9, hf⟩ := ob hf
            refine r_callSj (rest := []) C0 hH (c_X9_told Γ l Λ z8 (z8.2 p0 15) (z8.2 p0 17) v5 z9 h9) cs_X9_265 (by decide) rfl hl.1 rfl (Nat.le_of_ble_eq_true rfl) dX9_luck_71 (by decide) (fun H locs hH => ?_)
            obtain rfl := Option.some.inj hf
            exact r_lret C0 hr hlocks hH dX9_luck_74
          · replace hf := it hf c7
            refine lv_ldc2 hx hb hown (hts _ kl_X9_259) dX9_luck_48 ?_
            obtain rfl := Option.some.inj hf
            exact r_lret C0 hr hlocks hH dX9_luck_51
theorem dX9_mean_0 : decode cX9_mean 0 = .ok (.iload_n 1, 1) := by decide +kernel
theorem dX9_mean_1 : decode cX9_mean 1 = .ok (.i2l, 1) := by decide +kernel
theorem dX9_mean_2 : decode cX9_mean 2 = .ok (.lconst 0, 1) := by decide +kernel
theorem dX9_mean_3 : decode cX9_mean 3 = .ok (.ldc2_w 255, 3) := by decide +kernel
theorem dX9_mean_6 : decode cX9_mean 6 = .ok (.invokestatic 56, 3) := by decide +kernel
theorem dX9_mean_9 : decode cX9_mean 9 = .ok (.ifCond .eq 22, 3) := by decide +kernel
theorem dX9_mean_12 : decode cX9_mean 12 = .ok (.iload_n 2, 1) := by decide +kernel
theorem dX9_mean_13 : decode cX9_mean 13 = .ok (.i2l, 1) := by decide +kernel
theorem dX9_mean_14 : decode cX9_mean 14 = .ok (.lconst 0, 1) := by decide +kernel
theorem dX9_mean_15 : decode cX9_mean 15 = .ok (.ldc2_w 257, 3) := by decide +kernel
theorem dX9_mean_18 : decode cX9_mean 18 = .ok (.invokestatic 56, 3) := by decide +kernel
theorem dX9_mean_21 : decode cX9_mean 21 = .ok (.ifCond .eq 10, 3) := by decide +kernel
theorem dX9_mean_24 : decode cX9_mean 24 = .ok (.iload_n 3, 1) := by decide +kernel
theorem dX9_mean_25 : decode cX9_mean 25 = .ok (.invokestatic 228, 3) := by decide +kernel
theorem dX9_mean_28 : decode cX9_mean 28 = .ok (.ifCond .ne 7, 3) := by decide +kernel
theorem dX9_mean_31 : decode cX9_mean 31 = .ok (.ldc2_w 259, 3) := by decide +kernel
theorem dX9_mean_34 : decode cX9_mean 34 = .ok (.lreturn, 1) := by decide +kernel
theorem dX9_mean_35 : decode cX9_mean 35 = .ok (.aload_n 0, 1) := by decide +kernel
theorem dX9_mean_36 : decode cX9_mean 36 = .ok (.iload_n 1, 1) := by decide +kernel
theorem dX9_mean_37 : decode cX9_mean 37 = .ok (.bipush (-4), 2) := by decide +kernel
theorem dX9_mean_39 : decode cX9_mean 39 = .ok (.iload_n 2, 1) := by decide +kernel
theorem dX9_mean_40 : decode cX9_mean 40 = .ok (.iconst 0, 1) := by decide +kernel
theorem dX9_mean_41 : decode cX9_mean 41 = .ok (.invokevirtual 261, 3) := by decide +kernel
theorem dX9_mean_44 : decode cX9_mean 44 = .ok (.aload_n 0, 1) := by decide +kernel
theorem dX9_mean_45 : decode cX9_mean 45 = .ok (.getfield 249, 3) := by decide +kernel
theorem dX9_mean_48 : decode cX9_mean 48 = .ok (.aload_n 0, 1) := by decide +kernel
theorem dX9_mean_49 : decode cX9_mean 49 = .ok (.getfield 252, 3) := by decide +kernel
theorem dX9_mean_52 : decode cX9_mean 52 = .ok (.iload_n 3, 1) := by decide +kernel
theorem dX9_mean_53 : decode cX9_mean 53 = .ok (.invokestatic 265, 3) := by decide +kernel
theorem dX9_mean_56 : decode cX9_mean 56 = .ok (.lreturn, 1) := by decide +kernel
def f_X9_mean (Λ : List Ly) (d : Dt) (p0 : Nat) (v1 : Int32) (v2 : Int32) (v3 : Int32) : Option (Int64 × Dt) := if (f_X9_in (v1).toInt64 (0 : Int64) (10 : Int64)) = 0 then (some ((-1 : Int64), d)) else (if (f_X9_in (v2).toInt64 (0 : Int64) (8 : Int64)) = 0 then (some ((-1 : Int64), d)) else (if (f_X9_isPart v3) = 0 then (some ((-1 : Int64), d)) else (if clsAt Λ p0 = some 9 then (Option.bind (f_X9_findOdds Λ d p0 v1 (-4 : Int32) v2 (0 : Int32)) fun z5 => Option.bind (f_X9_told (z5.2 p0 16) (z5.2 p0 17) v3) fun z6 => some (z6, z5)) else none)))
set_option maxHeartbeats 4000000 in
set_option maxRecDepth 100000 in
theorem c_X9_mean (Γ : Cx) (l : Launch) (Λ : List Ly) (d : Dt) (p0 : Nat) (v1 : Int32) (v2 : Int32) (v3 : Int32) (z : Int64 × Dt) (hf : f_X9_mean Λ d p0 v1 v2 v3 = some z) : Cn Γ l yX9_mean cX9_mean 4 (some FieldType.long) 6 138 [.ref (ad Γ.2.2.1 p0), .int v1, .int v2, .int v3] Λ d (some (.long z.1)) z.2 := by
  refine Cn.of (own := "SeasonBoundModel") (by decide +kernel) rfl (Nat.le_of_ble_eq_true rfl) ?_
  intro p e s m below meth c C0 hr hlocks hH ls hl
  have hl : lv_has ls 4 [(0, .ref (ad Γ.2.2.1 p0)), (1, .int v1), (2, .int v2), (3, .int v3)] := hl
  obtain ⟨hx, hb, hml, hown, hts, hK⟩ := id C0
  unfold f_X9_mean at hf
  refine lv_iload_n hx hb dX9_mean_0 rfl (lv_at hl 1 rfl) ?_
  refine lv_i2l (v := (v1).toInt64) hx hb dX9_mean_1 rfl ?_
  refine lv_lconst (v := (0 : Int64)) hx hb dX9_mean_2 (by decide) ?_
  refine lv_ldc2 hx hb hown (hts _ kl_X9_255) dX9_mean_3 ?_
  refine r_callSi (rest := []) C0 hH (c_X9_in Γ l Λ d (v1).toInt64 (0 : Int64) (10 : Int64)) cs_X9_56 (by decide) rfl hl.1 rfl (Nat.le_of_ble_eq_true rfl) dX9_mean_6 (by decide) (fun H locs hH => ?_)
  refine lv_if_eq (tgt := 31) hx hb dX9_mean_9 (by decide) (fun c1 => ?_) (fun c1 => ?_)
  · replace hf := it hf c1
    refine lv_ldc2 hx hb hown (hts _ kl_X9_259) dX9_mean_31 ?_
    obtain rfl := Option.some.inj hf
    exact r_lret C0 hr hlocks hH dX9_mean_34
  · replace hf := ie hf c1
    refine lv_iload_n hx hb dX9_mean_12 rfl (lv_at hl 2 rfl) ?_
    refine lv_i2l (v := (v2).toInt64) hx hb dX9_mean_13 rfl ?_
    refine lv_lconst (v := (0 : Int64)) hx hb dX9_mean_14 (by decide) ?_
    refine lv_ldc2 hx hb hown (hts _ kl_X9_257) dX9_mean_15 ?_
    refine r_callSi (rest := []) C0 hH (c_X9_in Γ l Λ d (v2).toInt64 (0 : Int64) (8 : Int64)) cs_X9_56 (by decide) rfl hl.1 rfl (Nat.le_of_ble_eq_true rfl) dX9_mean_18 (by decide) (fun H locs hH => ?_)
    refine lv_if_eq (tgt := 31) hx hb dX9_mean_21 (by decide) (fun c2 => ?_) (fun c2 => ?_)
    · replace hf := it hf c2
      refine lv_ldc2 hx hb hown (hts _ kl_X9_259) dX9_mean_31 ?_
      obtain rfl := Option.some.inj hf
      exact r_lret C0 hr hlocks hH dX9_mean_34
    · replace hf := ie hf c2
      refine lv_iload_n hx hb dX9_mean_24 rfl (lv_at hl 3 rfl) ?_
      refine r_callSi (rest := []) C0 hH (c_X9_isPart Γ l Λ d v3) cs_X9_228 (by decide) rfl hl.1 rfl (Nat.le_of_ble_eq_true rfl) dX9_mean_25 (by decide) (fun H locs hH => ?_)
      refine lv_if_ne (tgt := 35) hx hb dX9_mean_28 (by decide) (fun c3 => ?_) (fun c3 => ?_)
      · replace hf := ie hf c3
        refine lv_aload_n hx hb dX9_mean_35 rfl (lv_at hl 0 rfl) ?_
        refine lv_iload_n hx hb dX9_mean_36 rfl (lv_at hl 1 rfl) ?_
        refine lv_bipush (v := (-4 : Int32)) hx hb dX9_mean_37 (by decide) ?_
        refine lv_iload_n hx hb dX9_mean_39 rfl (lv_at hl 2 rfl) ?_
        refine lv_iconst (v := (0 : Int32)) hx hb dX9_mean_40 (by decide) ?_
        obtain ⟨g4, hf⟩ := gd hf
        obtain ⟨z5, h5, hf⟩ := ob hf
        refine r_callVv (rest := []) C0 hH (c_X9_findOdds Γ l Λ d p0 v1 (-4 : Int32) v2 (0 : Int32) z5 h5) cv_X9_261 g4 (by decide) rfl hl.1 rfl (Nat.le_of_ble_eq_true rfl) dX9_mean_41 (by decide) (fun H locs hH => ?_)
        refine lv_aload_n hx hb dX9_mean_44 rfl (lv_at hl 0 rfl) ?_
        refine r_getj C0 hH fl_X9_249 g4 rfl dX9_mean_45 ?_
        refine lv_aload_n hx hb dX9_mean_48 rfl (lv_at hl 0 rfl) ?_
        refine r_getj C0 hH fl_X9_252 g4 rfl dX9_mean_49 ?_
        refine lv_iload_n hx hb dX9_mean_52 rfl (lv_at hl 3 rfl) ?_
        obtain ⟨z6, h6, hf⟩ := ob hf
        refine r_callSj (rest := []) C0 hH (c_X9_told Γ l Λ z5 (z5.2 p0 16) (z5.2 p0 17) v3 z6 h6) cs_X9_265 (by decide) rfl hl.1 rfl (Nat.le_of_ble_eq_true rfl) dX9_mean_53 (by decide) (fun H locs hH => ?_)
        obtain rfl := Option.some.inj hf
        exact r_lret C0 hr hlocks hH dX9_mean_56
      · replace hf := it hf c3
        refine lv_ldc2 hx hb hown (hts _ kl_X9_259) dX9_mean_31 ?_
        obtain rfl := Option.some.inj hf
        exact r_lret C0 hr hlocks hH dX9_mean_34
