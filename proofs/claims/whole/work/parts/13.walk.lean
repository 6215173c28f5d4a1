theorem dX8_home_0 : decode cX8_home 0 = .ok (.aload_n 0, 1) := by decide +kernel
theorem dX8_home_1 : decode cX8_home 1 = .ok (.getfield 24, 3) := by decide +kernel
theorem dX8_home_4 : decode cX8_home 4 = .ok (.iload_n 1, 1) := by decide +kernel
theorem dX8_home_5 : decode cX8_home 5 = .ok (.invokevirtual 108, 3) := by decide +kernel
theorem dX8_home_8 : decode cX8_home 8 = .ok (.ifCond .ne 5, 3) := by decide +kernel
theorem dX8_home_11 : decode cX8_home 11 = .ok (.iconst (-1), 1) := by decide +kernel
theorem dX8_home_12 : decode cX8_home 12 = .ok (.ireturn, 1) := by decide +kernel
theorem dX8_home_13 : decode cX8_home 13 = .ok (.aload_n 0, 1) := by decide +kernel
theorem dX8_home_14 : decode cX8_home 14 = .ok (.getfield 28, 3) := by decide +kernel
theorem dX8_home_17 : decode cX8_home 17 = .ok (.aload_n 0, 1) := by decide +kernel
theorem dX8_home_18 : decode cX8_home 18 = .ok (.getfield 24, 3) := by decide +kernel
theorem dX8_home_21 : decode cX8_home 21 = .ok (.invokevirtual 87, 3) := by decide +kernel
theorem dX8_home_24 : decode cX8_home 24 = .ok (.iconst 0, 1) := by decide +kernel
theorem dX8_home_25 : decode cX8_home 25 = .ok (.istore_n 2, 1) := by decide +kernel
theorem dX8_home_26 : decode cX8_home 26 = .ok (.iload_n 2, 1) := by decide +kernel
theorem dX8_home_27 : decode cX8_home 27 = .ok (.bipush 60, 2) := by decide +kernel
theorem dX8_home_29 : decode cX8_home 29 = .ok (.if_icmp .gt 33, 3) := by decide +kernel
theorem dX8_home_32 : decode cX8_home 32 = .ok (.aload_n 0, 1) := by decide +kernel
theorem dX8_home_33 : decode cX8_home 33 = .ok (.getfield 28, 3) := by decide +kernel
theorem dX8_home_36 : decode cX8_home 36 = .ok (.getfield 112, 3) := by decide +kernel
theorem dX8_home_39 : decode cX8_home 39 = .ok (.iload_n 1, 1) := by decide +kernel
theorem dX8_home_40 : decode cX8_home 40 = .ok (.aaload, 1) := by decide +kernel
theorem dX8_home_41 : decode cX8_home 41 = .ok (.invokevirtual 121, 3) := by decide +kernel
theorem dX8_home_44 : decode cX8_home 44 = .ok (.ifCond .eq 5, 3) := by decide +kernel
theorem dX8_home_47 : decode cX8_home 47 = .ok (.iload_n 2, 1) := by decide +kernel
theorem dX8_home_48 : decode cX8_home 48 = .ok (.ireturn, 1) := by decide +kernel
theorem dX8_home_49 : decode cX8_home 49 = .ok (.aload_n 0, 1) := by decide +kernel
theorem dX8_home_50 : decode cX8_home 50 = .ok (.getfield 28, 3) := by decide +kernel
theorem dX8_home_53 : decode cX8_home 53 = .ok (.invokevirtual 179, 3) := by decide +kernel
theorem dX8_home_56 : decode cX8_home 56 = .ok (.iinc 2 1, 3) := by decide +kernel
theorem dX8_home_59 : decode cX8_home 59 = .ok (.goto (-33), 3) := by decide +kernel
theorem dX8_home_62 : decode cX8_home 62 = .ok (.bipush (-4), 2) := by decide +kernel
theorem dX8_home_64 : decode cX8_home 64 = .ok (.ireturn, 1) := by decide +kernel
def f_X8_home_L26 (Λ : List Ly) (p0 : Nat) (v1 : Int32) : Nat → Int32 → Dt → Option (Int32 × Dt)
  | 0, _, _ => none
  | n + 1, v2, d => if (60 : Int32) < v2 then (some ((-4 : Int32), d)) else (Option.bind (rf Λ p0 8 3) fun q9 => Option.bind (rf Λ q9 7 1) fun q10 => Option.bind (ra Λ q10 4 v1) fun q11 => if clsAt Λ q11 = some 1 then (Option.bind (f_X1_isFree Λ d q11) fun z13 => if z13 = 0 then (if clsAt Λ q9 = some 7 then (Option.bind (f_X7_passOne Λ d q9) fun z16 => f_X8_home_L26 Λ p0 v1 n (v2 + (1 : Int32)) z16) else none) else (some (v2, d))) else none)
def f_X8_home (Λ : List Ly) (d : Dt) (p0 : Nat) (v1 : Int32) : Option (Int32 × Dt) := Option.bind (rf Λ p0 8 2) fun q1 => if clsAt Λ q1 = some 7 then (Option.bind (f_X7_has Λ d q1 v1) fun z3 => if z3 = 0 then (some ((-1 : Int32), d)) else (Option.bind (rf Λ p0 8 3) fun q5 => if clsAt Λ q5 = some 7 then (Option.bind (f_X7_copy Λ d q5 q1) fun z7 => f_X8_home_L26 Λ p0 v1 FU (0 : Int32) z7) else none)) else none
set_option maxHeartbeats 4000000 in
set_option maxRecDepth 100000 in
theorem w_X8_home_L26 {p : Program} {l : Launch} {e : Env} {s : State} {m : MethodId} {args : Array Value} {below : List Frame} {meth : Method} {c : Code} {Γ : Cx} {Λ : List Ly} {z : Int32 × Dt} (C0 : Ct Γ p s m args c cX8_home 3 "SeasonBound") (hr : meth.sig.returnType = (some FieldType.int)) (hlocks : meth.locks = false) (p0 : Nat) (v1 : Int32) :
    ∀ (n : Nat) (v2 : Int32) (d : Dt), f_X8_home_L26 Λ p0 v1 n v2 d = some z → ∀ (H : Heap) (locs : List Loc) (ls : Array Slot), Hs Γ Λ d s H locs → lv_has ls 3 [(0, .ref (ad Γ.2.2.1 p0)), (1, .int v1), (2, .int v2)] → W p l e { frames := 4, cells := 0, slots := 0, locals := 85 } s m args below meth c H locs 0 0 (MQ below (QN Γ Λ z.2 (some (.int z.1))) args s 0 0 (AP Γ)) (F0 m 26 ls []) := by
  obtain ⟨hx, hb, hml, hown, hts, hK⟩ := id C0
  intro n
  induction n with
  | zero =>
    intro v2 d hf
    cases hf
  | succ n ih =>
    intro v2 d hf H locs ls hH hl
    unfold f_X8_home_L26 at hf
    refine lv_iload_n hx hb dX8_home_26 rfl (lv_at hl 2 rfl) ?_
    refine lv_bipush (v := (60 : Int32)) hx hb dX8_home_27 (by decide) ?_
    refine lv_icmp_gt (tgt := 62) hx hb dX8_home_29 (by decide) (fun c8 => ?_) (fun c8 => ?_)
    · replace hf := it hf c8
      refine lv_bipush (v := (-4 : Int32)) hx hb dX8_home_62 (by decide) ?_
      obtain rfl := Option.some.inj hf
      exact r_iret (d' := d) C0 hr hlocks hH rfl dX8_home_64
    · replace hf := ie hf c8
      refine lv_aload_n hx hb dX8_home_32 rfl (lv_at hl 0 rfl) ?_
      obtain ⟨q9, g9, hf⟩ := ob hf
      refine r_getr C0 hH fl_X8_28 g9 dX8_home_33 ?_
      obtain ⟨q10, g10, hf⟩ := ob hf
      refine r_getr C0 hH fl_X8_112 g10 dX8_home_36 ?_
      refine lv_iload_n hx hb dX8_home_39 rfl (lv_at hl 1 rfl) ?_
      obtain ⟨q11, g11, hf⟩ := ob hf
      refine r_aald (C := "SeasonBound$Child") C0 hH g11 (by decide) rfl dX8_home_40 ?_
      obtain ⟨g12, hf⟩ := gd hf
      obtain ⟨z13, h13, hf⟩ := ob hf
      refine r_callVi (rest := []) C0 hH (c_X1_isFree Γ l Λ d q11 z13 h13) cv_X8_121 g12 (by decide) rfl hl.1 rfl (Nat.le_of_ble_eq_true rfl) dX8_home_41 (by decide) (fun H locs hH => ?_)
      refine lv_if_eq (tgt := 49) hx hb dX8_home_44 (by decide) (fun c14 => ?_) (fun c14 => ?_)
      · replace hf := it hf c14
        refine lv_aload_n hx hb dX8_home_49 rfl (lv_at hl 0 rfl) ?_
        refine r_getr C0 hH fl_X8_28 g9 dX8_home_50 ?_
        obtain ⟨g15, hf⟩ := gd hf
        obtain ⟨z16, h16, hf⟩ := ob hf
        refine r_callVv (rest := []) C0 hH (c_X7_passOne Γ l Λ d q9 z16 h16) cv_X8_179 g15 (by decide) rfl hl.1 rfl (Nat.le_of_ble_eq_true rfl) dX8_home_53 (by decide) (fun H locs hH => ?_)
        refine lv_iinc (v := (v2 + (1 : Int32))) (lv' := [(2, .int (v2 + (1 : Int32))), (0, .ref (ad Γ.2.2.1 p0)), (1, .int v1)]) hx hb dX8_home_56 hl (k := 2) rfl (congrArg (fun w => v2 + w) (by decide)) (by decide) rfl (fun ls hl => ?_)
        refine lv_goto (tgt := 26) hx hb dX8_home_59 (by decide) ?_
        exact ih (v2 + (1 : Int32)) z16 hf _ _ _ hH (lv_sub hl [1, 2, 0] rfl)
      · replace hf := ie hf c14
        refine lv_iload_n hx hb dX8_home_47 rfl (lv_at hl 2 rfl) ?_
        obtain rfl := Option.some.inj hf
        exact r_iret (d' := d) C0 hr hlocks hH rfl dX8_home_48
set_option maxHeartbeats 4000000 in
set_option maxRecDepth 100000 in
theorem c_X8_home (Γ : Cx) (l : Launch) (Λ : List Ly) (d : Dt) (p0 : Nat) (v1 : Int32) (z : Int32 × Dt) (hf : f_X8_home Λ d p0 v1 = some z) : Cn Γ l yX8_home cX8_home 3 (some FieldType.int) 4 85 [.ref (ad Γ.2.2.1 p0), .int v1] Λ d (some (.int z.1)) z.2 := by
  refine Cn.of (own := "SeasonBound") (by decide +kernel) rfl (Nat.le_of_ble_eq_true rfl) ?_
  intro p e s m below meth c C0 hr hlocks hH ls hl
  have hl : lv_has ls 3 [(0, .ref (ad Γ.2.2.1 p0)), (1, .int v1)] := hl
  obtain ⟨hx, hb, hml, hown, hts, hK⟩ := id C0
  unfold f_X8_home at hf
  refine lv_aload_n hx hb dX8_home_0 rfl (lv_at hl 0 rfl) ?_
  obtain ⟨q1, g1, hf⟩ := ob hf
  refine r_getr C0 hH fl_X8_24 g1 dX8_home_1 ?_
  refine lv_iload_n hx hb dX8_home_4 rfl (lv_at hl 1 rfl) ?_
  obtain ⟨g2, hf⟩ := gd hf
  obtain ⟨z3, h3, hf⟩ := ob hf
  refine r_callVi (rest := []) C0 hH (c_X7_has Γ l Λ d q1 v1 z3 h3) cv_X8_108 g2 (by decide) rfl hl.1 rfl (Nat.le_of_ble_eq_true rfl) dX8_home_5 (by decide) (fun H locs hH => ?_)
  refine lv_if_ne (tgt := 13) hx hb dX8_home_8 (by decide) (fun c4 => ?_) (fun c4 => ?_)
  · replace hf := ie hf c4
    refine lv_aload_n hx hb dX8_home_13 rfl (lv_at hl 0 rfl) ?_
    obtain ⟨q5, g5, hf⟩ := ob hf
    refine r_getr C0 hH fl_X8_28 g5 dX8_home_14 ?_
    refine lv_aload_n hx hb dX8_home_17 rfl (lv_at hl 0 rfl) ?_
    refine r_getr C0 hH fl_X8_24 g1 dX8_home_18 ?_
    obtain ⟨g6, hf⟩ := gd hf
    obtain ⟨z7, h7, hf⟩ := ob hf
    refine r_callVv (rest := []) C0 hH (c_X7_copy Γ l Λ d q5 q1 z7 h7) cv_X8_87 g6 (by decide) rfl hl.1 rfl (Nat.le_of_ble_eq_true rfl) dX8_home_21 (by decide) (fun H locs hH => ?_)
    refine lv_iconst (v := (0 : Int32)) hx hb dX8_home_24 (by decide) ?_
    refine lv_istore_n (lv' := [(2, .int (0 : Int32)), (0, .ref (ad Γ.2.2.1 p0)), (1, .int v1)]) hx hb dX8_home_25 rfl hl (by decide) rfl (fun ls hl => ?_)
    refine w_X8_home_L26 C0 hr hlocks p0 v1 FU (0 : Int32) z7 hf _ _ _ hH (lv_sub hl [1, 2, 0] rfl)
  · replace hf := it hf c4
    refine lv_iconst (v := (-1 : Int32)) hx hb dX8_home_11 (by decide) ?_
    obtain rfl := Option.some.inj hf
    exact r_iret (d' := d) C0 hr hlocks hH rfl dX8_home_12
theorem dX8_meet_0 : decode cX8_meet 0 = .ok (.aload_n 0, 1) := by decide +kernel
theorem dX8_meet_1 : decode cX8_meet 1 = .ok (.getfield 24, 3) := by decide +kernel
theorem dX8_meet_4 : decode cX8_meet 4 = .ok (.iload_n 1, 1) := by decide +kernel
theorem dX8_meet_5 : decode cX8_meet 5 = .ok (.invokevirtual 108, 3) := by decide +kernel
theorem dX8_meet_8 : decode cX8_meet 8 = .ok (.ifCond .eq 19, 3) := by decide +kernel
theorem dX8_meet_11 : decode cX8_meet 11 = .ok (.aload_n 0, 1) := by decide +kernel
theorem dX8_meet_12 : decode cX8_meet 12 = .ok (.getfield 24, 3) := by decide +kernel
theorem dX8_meet_15 : decode cX8_meet 15 = .ok (.iload_n 2, 1) := by decide +kernel
theorem dX8_meet_16 : decode cX8_meet 16 = .ok (.invokevirtual 108, 3) := by decide +kernel
theorem dX8_meet_19 : decode cX8_meet 19 = .ok (.ifCond .eq 8, 3) := by decide +kernel
theorem dX8_meet_22 : decode cX8_meet 22 = .ok (.iload_n 1, 1) := by decide +kernel
theorem dX8_meet_23 : decode cX8_meet 23 = .ok (.iload_n 2, 1) := by decide +kernel
theorem dX8_meet_24 : decode cX8_meet 24 = .ok (.if_icmp .ne 5, 3) := by decide +kernel
theorem dX8_meet_27 : decode cX8_meet 27 = .ok (.iconst (-1), 1) := by decide +kernel
theorem dX8_meet_28 : decode cX8_meet 28 = .ok (.ireturn, 1) := by decide +kernel
theorem dX8_meet_29 : decode cX8_meet 29 = .ok (.iconst 1, 1) := by decide +kernel
theorem dX8_meet_30 : decode cX8_meet 30 = .ok (.iload_n 1, 1) := by decide +kernel
theorem dX8_meet_31 : decode cX8_meet 31 = .ok (.ishl, 1) := by decide +kernel
theorem dX8_meet_32 : decode cX8_meet 32 = .ok (.iconst 1, 1) := by decide +kernel
theorem dX8_meet_33 : decode cX8_meet 33 = .ok (.iload_n 2, 1) := by decide +kernel
theorem dX8_meet_34 : decode cX8_meet 34 = .ok (.ishl, 1) := by decide +kernel
theorem dX8_meet_35 : decode cX8_meet 35 = .ok (.ior, 1) := by decide +kernel
theorem dX8_meet_36 : decode cX8_meet 36 = .ok (.istore_n 3, 1) := by decide +kernel
theorem dX8_meet_37 : decode cX8_meet 37 = .ok (.aload_n 0, 1) := by decide +kernel
theorem dX8_meet_38 : decode cX8_meet 38 = .ok (.getfield 28, 3) := by decide +kernel
theorem dX8_meet_41 : decode cX8_meet 41 = .ok (.aload_n 0, 1) := by decide +kernel
theorem dX8_meet_42 : decode cX8_meet 42 = .ok (.getfield 24, 3) := by decide +kernel
theorem dX8_meet_45 : decode cX8_meet 45 = .ok (.invokevirtual 87, 3) := by decide +kernel
theorem dX8_meet_48 : decode cX8_meet 48 = .ok (.iconst 0, 1) := by decide +kernel
theorem dX8_meet_49 : decode cX8_meet 49 = .ok (.istore 4, 2) := by decide +kernel
theorem dX8_meet_51 : decode cX8_meet 51 = .ok (.iload 4, 2) := by decide +kernel
theorem dX8_meet_53 : decode cX8_meet 53 = .ok (.bipush 60, 2) := by decide +kernel
theorem dX8_meet_55 : decode cX8_meet 55 = .ok (.if_icmp .gt 32, 3) := by decide +kernel
theorem dX8_meet_58 : decode cX8_meet 58 = .ok (.aload_n 0, 1) := by decide +kernel
theorem dX8_meet_59 : decode cX8_meet 59 = .ok (.getfield 28, 3) := by decide +kernel
theorem dX8_meet_62 : decode cX8_meet 62 = .ok (.invokevirtual 101, 3) := by decide +kernel
theorem dX8_meet_65 : decode cX8_meet 65 = .ok (.iload_n 3, 1) := by decide +kernel
theorem dX8_meet_66 : decode cX8_meet 66 = .ok (.iand, 1) := by decide +kernel
theorem dX8_meet_67 : decode cX8_meet 67 = .ok (.iload_n 3, 1) := by decide +kernel
theorem dX8_meet_68 : decode cX8_meet 68 = .ok (.if_icmp .ne 6, 3) := by decide +kernel
theorem dX8_meet_71 : decode cX8_meet 71 = .ok (.iload 4, 2) := by decide +kernel
theorem dX8_meet_73 : decode cX8_meet 73 = .ok (.ireturn, 1) := by decide +kernel
theorem dX8_meet_74 : decode cX8_meet 74 = .ok (.aload_n 0, 1) := by decide +kernel
theorem dX8_meet_75 : decode cX8_meet 75 = .ok (.getfield 28, 3) := by decide +kernel
theorem dX8_meet_78 : decode cX8_meet 78 = .ok (.invokevirtual 179, 3) := by decide +kernel
theorem dX8_meet_81 : decode cX8_meet 81 = .ok (.iinc 4 1, 3) := by decide +kernel
theorem dX8_meet_84 : decode cX8_meet 84 = .ok (.goto (-33), 3) := by decide +kernel
theorem dX8_meet_87 : decode cX8_meet 87 = .ok (.bipush (-4), 2) := by decide +kernel
theorem dX8_meet_89 : decode cX8_meet 89 = .ok (.ireturn, 1) := by decide +kernel
def f_X8_meet_L51 (Λ : List Ly) (p0 : Nat) (v3 : Int32) : Nat → Int32 → Dt → Option (Int32 × Dt)
  | 0, _, _ => none
  | n + 1, v4, d => if (60 : Int32) < v4 then (some ((-4 : Int32), d)) else (Option.bind (rf Λ p0 8 3) fun q12 => if clsAt Λ q12 = some 7 then (Option.bind (f_X7_living Λ d q12) fun z14 => if (z14 &&& v3) = v3 then (some (v4, d)) else (Option.bind (f_X7_passOne Λ d q12) fun z16 => f_X8_meet_L51 Λ p0 v3 n (v4 + (1 : Int32)) z16)) else none)
def f_X8_meet (Λ : List Ly) (d : Dt) (p0 : Nat) (v1 : Int32) (v2 : Int32) : Option (Int32 × Dt) := Option.bind (rf Λ p0 8 2) fun q1 => if clsAt Λ q1 = some 7 then (Option.bind (f_X7_has Λ d q1 v1) fun z3 => if z3 = 0 then (some ((-1 : Int32), d)) else (Option.bind (f_X7_has Λ d q1 v2) fun z5 => if z5 = 0 then (some ((-1 : Int32), d)) else (if v1 = v2 then (some ((-1 : Int32), d)) else (Option.bind (rf Λ p0 8 3) fun q8 => if clsAt Λ q8 = some 7 then (Option.bind (f_X7_copy Λ d q8 q1) fun z10 => f_X8_meet_L51 Λ p0 (((1 : Int32) <<< (v1 &&& 31)) ||| ((1 : Int32) <<< (v2 &&& 31))) FU (0 : Int32) z10) else none)))) else none
set_option maxHeartbeats 4000000 in
set_option maxRecDepth 100000 in
theorem w_X8_meet_L51 {p : Program} {l : Launch} {e : Env} {s : State} {m : MethodId} {args : Array Value} {below : List Frame} {meth : Method} {c : Code} {Γ : Cx} {Λ : List Ly} {z : Int32 × Dt} (C0 : Ct Γ p s m args c cX8_meet 5 "SeasonBound") (hr : meth.sig.returnType = (some FieldType.int)) (hlocks : meth.locks = false) (p0 : Nat) (v3 : Int32) :
    ∀ (n : Nat) (v4 : Int32) (d : Dt), f_X8_meet_L51 Λ p0 v3 n v4 d = some z → ∀ (H : Heap) (locs : List Loc) (ls : Array Slot), Hs Γ Λ d s H locs → lv_has ls 5 [(0, .ref (ad Γ.2.2.1 p0)), (3, .int v3), (4, .int v4)] → W p l e { frames := 4, cells := 0, slots := 0, locals := 85 } s m args below meth c H locs 0 0 (MQ below (QN Γ Λ z.2 (some (.int z.1))) args s 0 0 (AP Γ)) (F0 m 51 ls []) := by
  obtain ⟨hx, hb, hml, hown, hts, hK⟩ := id C0
  intro n
  induction n with
  | zero =>
    intro v4 d hf
    cases hf
  | succ n ih =>
    intro v4 d hf H locs ls hH hl
    unfold f_X8_meet_L51 at hf
    refine lv_iload hx hb dX8_meet_51 (lv_at hl 2 rfl) ?_
    refine lv_bipush (v := (60 : Int32)) hx hb dX8_meet_53 (by decide) ?_
    refine lv_icmp_gt (tgt := 87) hx hb dX8_meet_55 (by decide) (fun c11 => ?_) (fun c11 => ?_)
    · replace hf := it hf c11
      refine lv_bipush (v := (-4 : Int32)) hx hb dX8_meet_87 (by decide) ?_
      obtain rfl := Option.some.inj hf
      exact r_iret (d' := d) C0 hr hlocks hH rfl dX8_meet_89
    · replace hf := ie hf c11
      refine lv_aload_n hx hb dX8_meet_58 rfl (lv_at hl 0 rfl) ?_
      obtain ⟨q12, g12, hf⟩ := ob hf
      refine r_getr C0 hH fl_X8_28 g12 dX8_meet_59 ?_
      obtain ⟨g13, hf⟩ := gd hf
      obtain ⟨z14, h14, hf⟩ := ob hf
      refine r_callVi (rest := []) C0 hH (c_X7_living Γ l Λ d q12 z14 h14) cv_X8_101 g13 (by decide) rfl hl.1 rfl (Nat.le_of_ble_eq_true rfl) dX8_meet_62 (by decide) (fun H locs hH => ?_)
      refine lv_iload_n hx hb dX8_meet_65 rfl (lv_at hl 1 rfl) ?_
      refine lv_iand hx hb dX8_meet_66 ?_
      refine lv_iload_n hx hb dX8_meet_67 rfl (lv_at hl 1 rfl) ?_
      refine lv_icmp_ne (tgt := 74) hx hb dX8_meet_68 (by decide) (fun c15 => ?_) (fun c15 => ?_)
      · replace hf := ie hf c15
        refine lv_aload_n hx hb dX8_meet_74 rfl (lv_at hl 0 rfl) ?_
        refine r_getr C0 hH fl_X8_28 g12 dX8_meet_75 ?_
        obtain ⟨z16, h16, hf⟩ := ob hf
        refine r_callVv (rest := []) C0 hH (c_X7_passOne Γ l Λ d q12 z16 h16) cv_X8_179 g13 (by decide) rfl hl.1 rfl (Nat.le_of_ble_eq_true rfl) dX8_meet_78 (by decide) (fun H locs hH => ?_)
        refine lv_iinc (v := (v4 + (1 : Int32))) (lv' := [(4, .int (v4 + (1 : Int32))), (0, .ref (ad Γ.2.2.1 p0)), (3, .int v3)]) hx hb dX8_meet_81 hl (k := 2) rfl (congrArg (fun w => v4 + w) (by decide)) (by decide) rfl (fun ls hl => ?_)
        refine lv_goto (tgt := 51) hx hb dX8_meet_84 (by decide) ?_
        exact ih (v4 + (1 : Int32)) z16 hf _ _ _ hH (lv_sub hl [1, 2, 0] rfl)
      · replace hf := it hf c15
        refine lv_iload hx hb dX8_meet_71 (lv_at hl 2 rfl) ?_
        obtain rfl := Option.some.inj hf
        exact r_iret (d' := d) C0 hr hlocks hH rfl dX8_meet_73
set_option maxHeartbeats 4000000 in
set_option maxRecDepth 100000 in
theorem c_X8_meet (Γ : Cx) (l : Launch) (Λ : List Ly) (d : Dt) (p0 : Nat) (v1 : Int32) (v2 : Int32) (z : Int32 × Dt) (hf : f_X8_meet Λ d p0 v1 v2 = some z) : Cn Γ l yX8_meet cX8_meet 5 (some FieldType.int) 4 85 [.ref (ad Γ.2.2.1 p0), .int v1, .int v2] Λ d (some (.int z.1)) z.2 := by
  refine Cn.of (own := "SeasonBound") (by decide +kernel) rfl (Nat.le_of_ble_eq_true rfl) ?_
  intro p e s m below meth c C0 hr hlocks hH ls hl
  have hl : lv_has ls 5 [(0, .ref (ad Γ.2.2.1 p0)), (1, .int v1), (2, .int v2)] := hl
  obtain ⟨hx, hb, hml, hown, hts, hK⟩ := id C0
  unfold f_X8_meet at hf
  refine lv_aload_n hx hb dX8_meet_0 rfl (lv_at hl 0 rfl) ?_
  obtain ⟨q1, g1, hf⟩ := ob hf
  refine r_getr C0 hH fl_X8_24 g1 dX8_meet_1 ?_
  refine lv_iload_n hx hb dX8_meet_4 rfl (lv_at hl 1 rfl) ?_
  obtain ⟨g2, hf⟩ := gd hf
  obtain ⟨z3, h3, hf⟩ := ob hf
  refine r_callVi (rest := []) C0 hH (c_X7_has Γ l Λ d q1 v1 z3 h3) cv_X8_108 g2 (by decide) rfl hl.1 rfl (Nat.le_of_ble_eq_true rfl) dX8_meet_5 (by decide) (fun H locs hH => ?_)
  refine lv_if_eq (tgt := 27) hx hb dX8_meet_8 (by decide) (fun c4 => ?_) (fun c4 => ?_)
  · replace hf := it hf c4
    refine lv_iconst (v := (-1 : Int32)) hx hb dX8_meet_27 (by decide) ?_
    obtain rfl := Option.some.inj hf
    exact r_iret (d' := d) C0 hr hlocks hH rfl dX8_meet_28
  · replace hf := ie hf c4
    refine lv_aload_n hx hb dX8_meet_11 rfl (lv_at hl 0 rfl) ?_
    refine r_getr C0 hH fl_X8_24 g1 dX8_meet_12 ?_
    refine lv_iload_n hx hb dX8_meet_15 rfl (lv_at hl 2 rfl) ?_
    obtain ⟨z5, h5, hf⟩ := ob hf
    refine r_callVi (rest := []) C0 hH (c_X7_has Γ l Λ d q1 v2 z5 h5) cv_X8_108 g2 (by decide) rfl hl.1 rfl (Nat.le_of_ble_eq_true rfl) dX8_meet_16 (by decide) (fun H locs hH => ?_)
    refine lv_if_eq (tgt := 27) hx hb dX8_meet_19 (by decide) (fun c6 => ?_) (fun c6 => ?_)
    · replace hf := it hf c6
      refine lv_iconst (v := (-1 : Int32)) hx hb dX8_meet_27 (by decide) ?_
      obtain rfl := Option.some.inj hf
      exact r_iret (d' := d) C0 hr hlocks hH rfl dX8_meet_28
    · replace hf := ie hf c6
      refine lv_iload_n hx hb dX8_meet_22 rfl (lv_at hl 1 rfl) ?_
      refine lv_iload_n hx hb dX8_meet_23 rfl (lv_at hl 2 rfl) ?_
      refine lv_icmp_ne (tgt := 29) hx hb dX8_meet_24 (by decide) (fun c7 => ?_) (fun c7 => ?_)
      · replace hf := ie hf c7
        refine lv_iconst (v := (1 : Int32)) hx hb dX8_meet_29 (by decide) ?_
        refine lv_iload_n hx hb dX8_meet_30 rfl (lv_at hl 1 rfl) ?_
        refine lv_ishl hx hb dX8_meet_31 ?_
        refine lv_iconst (v := (1 : Int32)) hx hb dX8_meet_32 (by decide) ?_
        refine lv_iload_n hx hb dX8_meet_33 rfl (lv_at hl 2 rfl) ?_
        refine lv_ishl hx hb dX8_meet_34 ?_
        refine lv_ior hx hb dX8_meet_35 ?_
        refine lv_istore_n (lv' := [(3, .int (((1 : Int32) <<< (v1 &&& 31)) ||| ((1 : Int32) <<< (v2 &&& 31)))), (0, .ref (ad Γ.2.2.1 p0)), (1, .int v1), (2, .int v2)]) hx hb dX8_meet_36 rfl hl (by decide) rfl (fun ls hl => ?_)
        refine lv_aload_n hx hb dX8_meet_37 rfl (lv_at hl 1 rfl) ?_
        obtain ⟨q8, g8, hf⟩ := ob hf
        refine r_getr C0 hH fl_X8_28 g8 dX8_meet_38 ?_
        refine lv_aload_n hx hb dX8_meet_41 rfl (lv_at hl 1 rfl) ?_
        refine r_getr C0 hH fl_X8_24 g1 dX8_meet_42 ?_
        obtain ⟨g9, hf⟩ := gd hf
        obtain ⟨z10, h10, hf⟩ := ob hf
        refine r_callVv (rest := []) C0 hH (c_X7_copy Γ l Λ d q8 q1 z10 h10) cv_X8_87 g9 (by decide) rfl hl.1 rfl (Nat.le_of_ble_eq_true rfl) dX8_meet_45 (by decide) (fun H locs hH => ?_)
        refine lv_iconst (v := (0 : Int32)) hx hb dX8_meet_48 (by decide) ?_
        refine lv_istore (lv' := [(4, .int (0 : Int32)), (3, .int (((1 : Int32) <<< (v1 &&& 31)) ||| ((1 : Int32) <<< (v2 &&& 31)))), (0, .ref (ad Γ.2.2.1 p0)), (1, .int v1), (2, .int v2)]) hx hb dX8_meet_49 hl (by decide) rfl (fun ls hl => ?_)
        refine w_X8_meet_L51 C0 hr hlocks p0 (((1 : Int32) <<< (v1 &&& 31)) ||| ((1 : Int32) <<< (v2 &&& 31))) FU (0 : Int32) z10 hf _ _ _ hH (lv_sub hl [2, 1, 0] rfl)
      · replace hf := it hf c7
        refine lv_iconst (v := (-1 : Int32)) hx hb dX8_meet_27 (by decide) ?_
        obtain rfl := Option.some.inj hf
        exact r_iret (d' := d) C0 hr hlocks hH rfl dX8_meet_28
theorem dX8_isWhichOrHowMuch_0 : decode cX8_isWhichOrHowMuch 0 = .ok (.iload_n 0, 1) := by decide +kernel
theorem dX8_isWhichOrHowMuch_1 : decode cX8_isWhichOrHowMuch 1 = .ok (.iconst 0, 1) := by decide +kernel
theorem dX8_isWhichOrHowMuch_2 : decode cX8_isWhichOrHowMuch 2 = .ok (.iconst 1, 1) := by decide +kernel
theorem dX8_isWhichOrHowMuch_3 : decode cX8_isWhichOrHowMuch 3 = .ok (.invokestatic 60, 3) := by decide +kernel
theorem dX8_isWhichOrHowMuch_6 : decode cX8_isWhichOrHowMuch 6 = .ok (.ireturn, 1) := by decide +kernel
def f_X8_isWhichOrHowMuch (v0 : Int32) : Int32 := (f_X8_within v0 (0 : Int32) (1 : Int32))
theorem bo_X8_isWhichOrHowMuch (v0 : Int32) : f_X8_isWhichOrHowMuch v0 = 0 ∨ f_X8_isWhichOrHowMuch v0 = 1 := by
  unfold f_X8_isWhichOrHowMuch
  (repeat' split) <;> first | exact Or.inl rfl | exact Or.inr rfl | exact bo_X8_within _ _ _
set_option maxHeartbeats 4000000 in
set_option maxRecDepth 100000 in
theorem c_X8_isWhichOrHowMuch (Γ : Cx) (l : Launch) (Λ : List Ly) (d : Dt) (v0 : Int32) : Cn Γ l yX8_isWhichOrHowMuch cX8_isWhichOrHowMuch 1 (some FieldType.boolean) 1 22 [.int v0] Λ d (some (.int (f_X8_isWhichOrHowMuch v0))) d := by
  generalize hf : f_X8_isWhichOrHowMuch v0 = z
  refine Cn.of (own := "SeasonBound") (by decide +kernel) rfl (Nat.le_of_ble_eq_true rfl) ?_
  intro p e s m below meth c C0 hr hlocks hH ls hl
  have hl : lv_has ls 1 [(0, .int v0)] := hl
  obtain ⟨hx, hb, hml, hown, hts, hK⟩ := id C0
  unfold f_X8_isWhichOrHowMuch at hf
  refine lv_iload_n hx hb dX8_isWhichOrHowMuch_0 rfl (lv_at hl 0 rfl) ?_
  refine lv_iconst (v := (0 : Int32)) hx hb dX8_isWhichOrHowMuch_1 (by decide) ?_
  refine lv_iconst (v := (1 : Int32)) hx hb dX8_isWhichOrHowMuch_2 (by decide) ?_
  refine r_callSi (rest := []) C0 hH (c_X8_within Γ l Λ d v0 (0 : Int32) (1 : Int32)) cs_X8_60 (by decide) rfl hl.1 rfl (Nat.le_of_ble_eq_true rfl) dX8_isWhichOrHowMuch_3 (by decide) (fun H locs hH => ?_)
  subst hf
  exact r_iret (d' := d) C0 hr hlocks hH (nz (bo_X8_within _ _ _)) dX8_isWhichOrHowMuch_6
theorem dX8_place_0 : decode cX8_place 0 = .ok (.aload_n 0, 1) := by decide +kernel
theorem dX8_place_1 : decode cX8_place 1 = .ok (.getfield 24, 3) := by decide +kernel
theorem dX8_place_4 : decode cX8_place 4 = .ok (.iload_n 1, 1) := by decide +kernel
theorem dX8_place_5 : decode cX8_place 5 = .ok (.invokevirtual 108, 3) := by decide +kernel
theorem dX8_place_8 : decode cX8_place 8 = .ok (.ifCond .eq 17, 3) := by decide +kernel
theorem dX8_place_11 : decode cX8_place 11 = .ok (.iload_n 2, 1) := by decide +kernel
theorem dX8_place_12 : decode cX8_place 12 = .ok (.invokestatic 176, 3) := by decide +kernel
theorem dX8_place_15 : decode cX8_place 15 = .ok (.ifCond .eq 10, 3) := by decide +kernel
theorem dX8_place_18 : decode cX8_place 18 = .ok (.iload_n 3, 1) := by decide +kernel
theorem dX8_place_19 : decode cX8_place 19 = .ok (.invokestatic 188, 3) := by decide +kernel
theorem dX8_place_22 : decode cX8_place 22 = .ok (.ifCond .ne 5, 3) := by decide +kernel
theorem dX8_place_25 : decode cX8_place 25 = .ok (.iconst (-1), 1) := by decide +kernel
theorem dX8_place_26 : decode cX8_place 26 = .ok (.ireturn, 1) := by decide +kernel
theorem dX8_place_27 : decode cX8_place 27 = .ok (.aload_n 0, 1) := by decide +kernel
theorem dX8_place_28 : decode cX8_place 28 = .ok (.getfield 48, 3) := by decide +kernel
theorem dX8_place_31 : decode cX8_place 31 = .ok (.iconst (-1), 1) := by decide +kernel
theorem dX8_place_32 : decode cX8_place 32 = .ok (.invokevirtual 191, 3) := by decide +kernel
theorem dX8_place_35 : decode cX8_place 35 = .ok (.iconst 0, 1) := by decide +kernel
theorem dX8_place_36 : decode cX8_place 36 = .ok (.istore 4, 2) := by decide +kernel
theorem dX8_place_38 : decode cX8_place 38 = .ok (.iload 4, 2) := by decide +kernel
theorem dX8_place_40 : decode cX8_place 40 = .ok (.iconst 4, 1) := by decide +kernel
theorem dX8_place_41 : decode cX8_place 41 = .ok (.if_icmp .ge 75, 3) := by decide +kernel
theorem dX8_place_44 : decode cX8_place 44 = .ok (.aload_n 0, 1) := by decide +kernel
theorem dX8_place_45 : decode cX8_place 45 = .ok (.getfield 28, 3) := by decide +kernel
theorem dX8_place_48 : decode cX8_place 48 = .ok (.aload_n 0, 1) := by decide +kernel
theorem dX8_place_49 : decode cX8_place 49 = .ok (.getfield 24, 3) := by decide +kernel
theorem dX8_place_52 : decode cX8_place 52 = .ok (.invokevirtual 87, 3) := by decide +kernel
theorem dX8_place_55 : decode cX8_place 55 = .ok (.aload_n 0, 1) := by decide +kernel
theorem dX8_place_56 : decode cX8_place 56 = .ok (.getfield 28, 3) := by decide +kernel
theorem dX8_place_59 : decode cX8_place 59 = .ok (.getfield 112, 3) := by decide +kernel
theorem dX8_place_62 : decode cX8_place 62 = .ok (.iload_n 1, 1) := by decide +kernel
theorem dX8_place_63 : decode cX8_place 63 = .ok (.aaload, 1) := by decide +kernel
theorem dX8_place_64 : decode cX8_place 64 = .ok (.astore 5, 2) := by decide +kernel
theorem dX8_place_66 : decode cX8_place 66 = .ok (.aload 5, 2) := by decide +kernel
theorem dX8_place_68 : decode cX8_place 68 = .ok (.iload 4, 2) := by decide +kernel
theorem dX8_place_70 : decode cX8_place 70 = .ok (.putfield 125, 3) := by decide +kernel
theorem dX8_place_73 : decode cX8_place 73 = .ok (.aload 5, 2) := by decide +kernel
theorem dX8_place_75 : decode cX8_place 75 = .ok (.invokevirtual 121, 3) := by decide +kernel
theorem dX8_place_78 : decode cX8_place 78 = .ok (.ifCond .eq 10, 3) := by decide +kernel
theorem dX8_place_81 : decode cX8_place 81 = .ok (.aload 5, 2) := by decide +kernel
theorem dX8_place_83 : decode cX8_place 83 = .ok (.bipush 12, 2) := by decide +kernel
theorem dX8_place_85 : decode cX8_place 85 = .ok (.putfield 128, 3) := by decide +kernel
theorem dX8_place_88 : decode cX8_place 88 = .ok (.aload_n 0, 1) := by decide +kernel
theorem dX8_place_89 : decode cX8_place 89 = .ok (.getfield 28, 3) := by decide +kernel
theorem dX8_place_92 : decode cX8_place 92 = .ok (.iload_n 2, 1) := by decide +kernel
theorem dX8_place_93 : decode cX8_place 93 = .ok (.invokevirtual 173, 3) := by decide +kernel
theorem dX8_place_96 : decode cX8_place 96 = .ok (.aload_n 0, 1) := by decide +kernel
theorem dX8_place_97 : decode cX8_place 97 = .ok (.getfield 48, 3) := by decide +kernel
theorem dX8_place_100 : decode cX8_place 100 = .ok (.iload 4, 2) := by decide +kernel
theorem dX8_place_102 : decode cX8_place 102 = .ok (.aload 5, 2) := by decide +kernel
theorem dX8_place_104 : decode cX8_place 104 = .ok (.getfield 131, 3) := by decide +kernel
theorem dX8_place_107 : decode cX8_place 107 = .ok (.invokevirtual 194, 3) := by decide +kernel
theorem dX8_place_110 : decode cX8_place 110 = .ok (.iinc 4 1, 3) := by decide +kernel
theorem dX8_place_113 : decode cX8_place 113 = .ok (.goto (-75), 3) := by decide +kernel
theorem dX8_place_116 : decode cX8_place 116 = .ok (.aload_n 0, 1) := by decide +kernel
theorem dX8_place_117 : decode cX8_place 117 = .ok (.getfield 48, 3) := by decide +kernel
theorem dX8_place_120 : decode cX8_place 120 = .ok (.iload_n 3, 1) := by decide +kernel
theorem dX8_place_121 : decode cX8_place 121 = .ok (.invokevirtual 198, 3) := by decide +kernel
theorem dX8_place_124 : decode cX8_place 124 = .ok (.ireturn, 1) := by decide +kernel
def f_X8_place_L38 (Λ : List Ly) (p0 : Nat) (v1 : Int32) (v2 : Int32) (v3 : Int32) : Nat → Int32 → Dt → Option (Int32 × Dt)
  | 0, _, _ => none
  | n + 1, v4, d => if (4 : Int32) ≤ v4 then (Option.bind (rf Λ p0 8 7) fun q11 => if clsAt Λ q11 = some 0 then (Option.bind (f_X0_told Λ d q11 v3) fun z13 => some (z13, d)) else none) else (Option.bind (rf Λ p0 8 3) fun q14 => Option.bind (rf Λ p0 8 2) fun q15 => if clsAt Λ q14 = some 7 then (Option.bind (f_X7_copy Λ d q14 q15) fun z17 => Option.bind (rf Λ q14 7 1) fun q18 => Option.bind (ra Λ q18 4 v1) fun q19 => if clsAt Λ q19 = some 1 then (Option.bind (f_X1_isFree Λ (pI z17 q19 1 v4) q19) fun z21 => if z21 = 0 then (Option.bind (f_X7_pass Λ (pI z17 q19 1 v4) q14 v2) fun z23 => Option.bind (rf Λ p0 8 7) fun q24 => if clsAt Λ q24 = some 0 then (Option.bind (f_X0_offer Λ z23 q24 v4 (z23.1 q19 3)) fun z26 => f_X8_place_L38 Λ p0 v1 v2 v3 n (v4 + (1 : Int32)) z26) else none) else (Option.bind (f_X7_pass Λ (pI (pI z17 q19 1 v4) q19 2 (12 : Int32)) q14 v2) fun z27 => Option.bind (rf Λ p0 8 7) fun q28 => if clsAt Λ q28 = some 0 then (Option.bind (f_X0_offer Λ z27 q28 v4 (z27.1 q19 3)) fun z30 => f_X8_place_L38 Λ p0 v1 v2 v3 n (v4 + (1 : Int32)) z30) else none)) else none) else none)
def f_X8_place (Λ : List Ly) (d : Dt) (p0 : Nat) (v1 : Int32) (v2 : Int32) (v3 : Int32) : Option (Int32 × Dt) := Option.bind (rf Λ p0 8 2) fun q1 => if clsAt Λ q1 = some 7 then (Option.bind (f_X7_has Λ d q1 v1) fun z3 => if z3 = 0 then (some ((-1 : Int32), d)) else (if (f_X8_isRun v2) = 0 then (some ((-1 : Int32), d)) else (if (f_X8_isWhichOrHowMuch v3) = 0 then (some ((-1 : Int32), d)) else (Option.bind (rf Λ p0 8 7) fun q7 => if clsAt Λ q7 = some 0 then (Option.bind (f_X0_seekAbove Λ d q7 (-1 : Int32)) fun z9 => f_X8_place_L38 Λ p0 v1 v2 v3 FU (0 : Int32) z9) else none)))) else none
set_option maxHeartbeats 4000000 in
set_option maxRecDepth 100000 in
theorem w_X8_place_L38 {p : Program} {l : Launch} {e : Env} {s : State} {m : MethodId} {args : Array Value} {below : List Frame} {meth : Method} {c : Code} {Γ : Cx} {Λ : List Ly} {z : Int32 × Dt} (C0 : Ct Γ p s m args c cX8_place 6 "SeasonBound") (hr : meth.sig.returnType = (some FieldType.int)) (hlocks : meth.locks = false) (p0 : Nat) (v1 : Int32) (v2 : Int32) (v3 : Int32) :
    ∀ (n : Nat) (v4 : Int32) (d : Dt), f_X8_place_L38 Λ p0 v1 v2 v3 n v4 d = some z → ∀ (H : Heap) (locs : List Loc) (ls : Array Slot), Hs Γ Λ d s H locs → lv_has ls 6 [(0, .ref (ad Γ.2.2.1 p0)), (1, .int v1), (2, .int v2), (3, .int v3), (4, .int v4)] → W p l e { frames := 5, cells := 0, slots := 0, locals := 107 } s m args below meth c H locs 0 0 (MQ below (QN Γ Λ z.2 (some (.int z.1))) args s 0 0 (AP Γ)) (F0 m 38 ls []) := by
  obtain ⟨hx, hb, hml, hown, hts, hK⟩ := id C0
  intro n
  induction n with
  | zero =>
    intro v4 d hf
    cases hf
  | succ n ih =>
    intro v4 d hf H locs ls hH hl
    unfold f_X8_place_L38 at hf
    refine lv_iload hx hb dX8_place_38 (lv_at hl 4 rfl) ?_
    refine lv_iconst (v := (4 : Int32)) hx hb dX8_place_40 (by decide) ?_
    refine lv_icmp_ge (tgt := 116) hx hb dX8_place_41 (by decide) (fun c10 => ?_) (fun c10 => ?_)
    · replace hf := it hf c10
      refine lv_aload_n hx hb dX8_place_116 rfl (lv_at hl 0 rfl) ?_
      obtain ⟨q11, g11, hf⟩ := ob hf
      refine r_getr C0 hH fl_X8_48 g11 dX8_place_117 ?_
      refine lv_iload_n hx hb dX8_place_120 rfl (lv_at hl 3 rfl) ?_
      obtain ⟨g12, hf⟩ := gd hf
      obtain ⟨z13, h13, hf⟩ := ob hf
      refine r_callVi (rest := []) C0 hH (c_X0_told Γ l Λ d q11 v3 z13 h13) cv_X8_198 g12 (by decide) rfl hl.1 rfl (Nat.le_of_ble_eq_true rfl) dX8_place_121 (by decide) (fun H locs hH => ?_)
      obtain rfl := Option.some.inj hf
      exact r_iret (d' := d) C0 hr hlocks hH rfl dX8_place_124
    · replace hf := ie hf c10
      refine lv_aload_n hx hb dX8_place_44 rfl (lv_at hl 0 rfl) ?_
      obtain ⟨q14, g14, hf⟩ := ob hf
      refine r_getr C0 hH fl_X8_28 g14 dX8_place_45 ?_
      refine lv_aload_n hx hb dX8_place_48 rfl (lv_at hl 0 rfl) ?_
      obtain ⟨q15, g15, hf⟩ := ob hf
      refine r_getr C0 hH fl_X8_24 g15 dX8_place_49 ?_
      obtain ⟨g16, hf⟩ := gd hf
      obtain ⟨z17, h17, hf⟩ := ob hf
      refine r_callVv (rest := []) C0 hH (c_X7_copy Γ l Λ d q14 q15 z17 h17) cv_X8_87 g16 (by decide) rfl hl.1 rfl (Nat.le_of_ble_eq_true rfl) dX8_place_52 (by decide) (fun H locs hH => ?_)
      refine lv_aload_n hx hb dX8_place_55 rfl (lv_at hl 0 rfl) ?_
      refine r_getr C0 hH fl_X8_28 g14 dX8_place_56 ?_
      obtain ⟨q18, g18, hf⟩ := ob hf
      refine r_getr C0 hH fl_X8_112 g18 dX8_place_59 ?_
      refine lv_iload_n hx hb dX8_place_62 rfl (lv_at hl 1 rfl) ?_
      obtain ⟨q19, g19, hf⟩ := ob hf
      refine r_aald (C := "SeasonBound$Child") C0 hH g19 (by decide) rfl dX8_place_63 ?_
      refine lv_astore (lv' := [(5, .ref (ad Γ.2.2.1 q19)), (0, .ref (ad Γ.2.2.1 p0)), (1, .int v1), (2, .int v2), (3, .int v3), (4, .int v4)]) hx hb dX8_place_64 hl (by decide) rfl (fun ls hl => ?_)
      refine lv_aload hx hb dX8_place_66 (lv_at hl 0 rfl) ?_
      refine lv_iload hx hb dX8_place_68 (lv_at hl 5 rfl) ?_
      obtain ⟨g20, hf⟩ := gd hf
      refine r_puti C0 hH fw_X8_125 g20 rfl dX8_place_70 (fun H locs hH => ?_)
      refine lv_aload hx hb dX8_place_73 (lv_at hl 0 rfl) ?_
      obtain ⟨z21, h21, hf⟩ := ob hf
      refine r_callVi (rest := []) C0 hH (c_X1_isFree Γ l Λ (pI z17 q19 1 v4) q19 z21 h21) cv_X8_121 g20 (by decide) rfl hl.1 rfl (Nat.le_of_ble_eq_true rfl) dX8_place_75 (by decide) (fun H locs hH => ?_)
      refine lv_if_eq (tgt := 88) hx hb dX8_place_78 (by decide) (fun c22 => ?_) (fun c22 => ?_)
      · replace hf := it hf c22
        refine lv_aload_n hx hb dX8_place_88 rfl (lv_at hl 1 rfl) ?_
        refine r_getr C0 hH fl_X8_28 g14 dX8_place_89 ?_
        refine lv_iload_n hx hb dX8_place_92 rfl (lv_at hl 3 rfl) ?_
        obtain ⟨z23, h23, hf⟩ := ob hf
        refine r_callVv (rest := []) C0 hH (c_X7_pass Γ l Λ (pI z17 q19 1 v4) q14 v2 z23 h23) cv_X8_173 g16 (by decide) rfl hl.1 rfl (Nat.le_of_ble_eq_true rfl) dX8_place_93 (by decide) (fun H locs hH => ?_)
        refine lv_aload_n hx hb dX8_place_96 rfl (lv_at hl 1 rfl) ?_
        obtain ⟨q24, g24, hf⟩ := ob hf
        refine r_getr C0 hH fl_X8_48 g24 dX8_place_97 ?_
        refine lv_iload hx hb dX8_place_100 (lv_at hl 5 rfl) ?_
        refine lv_aload hx hb dX8_place_102 (lv_at hl 0 rfl) ?_
        refine r_geti C0 hH fl_X8_131 g20 rfl dX8_place_104 ?_
        obtain ⟨g25, hf⟩ := gd hf
        obtain ⟨z26, h26, hf⟩ := ob hf
        refine r_callVv (rest := []) C0 hH (c_X0_offer Γ l Λ z23 q24 v4 (z23.1 q19 3) z26 h26) cv_X8_194 g25 (by decide) rfl hl.1 rfl (Nat.le_of_ble_eq_true rfl) dX8_place_107 (by decide) (fun H locs hH => ?_)
        refine lv_iinc (v := (v4 + (1 : Int32))) (lv' := [(4, .int (v4 + (1 : Int32))), (5, .ref (ad Γ.2.2.1 q19)), (0, .ref (ad Γ.2.2.1 p0)), (1, .int v1), (2, .int v2), (3, .int v3)]) hx hb dX8_place_110 hl (k := 5) rfl (congrArg (fun w => v4 + w) (by decide)) (by decide) rfl (fun ls hl => ?_)
        refine lv_goto (tgt := 38) hx hb dX8_place_113 (by decide) ?_
        exact ih (v4 + (1 : Int32)) z26 hf _ _ _ hH (lv_sub hl [2, 3, 4, 5, 0] rfl)
      · replace hf := ie hf c22
        refine lv_aload hx hb dX8_place_81 (lv_at hl 0 rfl) ?_
        refine lv_bipush (v := (12 : Int32)) hx hb dX8_place_83 (by decide) ?_
        refine r_puti C0 hH fw_X8_128 g20 rfl dX8_place_85 (fun H locs hH => ?_)
        refine lv_aload_n hx hb dX8_place_88 rfl (lv_at hl 1 rfl) ?_
        refine r_getr C0 hH fl_X8_28 g14 dX8_place_89 ?_
        refine lv_iload_n hx hb dX8_place_92 rfl (lv_at hl 3 rfl) ?_
        obtain ⟨z27, h27, hf⟩ := ob hf
        refine r_callVv (rest := []) C0 hH (c_X7_pass Γ l Λ (pI (pI z17 q19 1 v4) q19 2 (12 : Int32)) q14 v2 z27 h27) cv_X8_173 g16 (by decide) rfl hl.1 rfl (Nat.le_of_ble_eq_true rfl) dX8_place_93 (by decide) (fun H locs hH => ?_)
        refine lv_aload_n hx hb dX8_place_96 rfl (lv_at hl 1 rfl) ?_
        obtain ⟨q28, g28, hf⟩ := ob hf
        refine r_getr C0 hH fl_X8_48 g28 dX8_place_97 ?_
        refine lv_iload hx hb dX8_place_100 (lv_at hl 5 rfl) ?_
        refine lv_aload hx hb dX8_place_102 (lv_at hl 0 rfl) ?_
        refine r_geti C0 hH fl_X8_131 g20 rfl dX8_place_104 ?_
        obtain ⟨g29, hf⟩ := gd hf
        obtain ⟨z30, h30, hf⟩ := ob hf
        refine r_callVv (rest := []) C0 hH (c_X0_offer Γ l Λ z27 q28 v4 (z27.1 q19 3) z30 h30) cv_X8_194 g29 (by decide) rfl hl.1 rfl (Nat.le_of_ble_eq_true rfl) dX8_place_107 (by decide) (fun H locs hH => ?_)
        refine lv_iinc (v := (v4 + (1 : Int32))) (lv' := [(4, .int (v4 + (1 : Int32))), (5, .ref (ad Γ.2.2.1 q19)), (0, .ref (ad Γ.2.2.1 p0)), (1, .int v1), (2, .int v2), (3, .int v3)]) hx hb dX8_place_110 hl (k := 5) rfl (congrArg (fun w => v4 + w) (by decide)) (by decide) rfl (fun ls hl => ?_)
        refine lv_goto (tgt := 38) hx hb dX8_place_113 (by decide) ?_
        exact ih (v4 + (1 : Int32)) z30 hf _ _ _ hH (lv_sub hl [2, 3, 4, 5, 0] rfl)
set_option maxHeartbeats 4000000 in
set_option maxRecDepth 100000 in
theorem c_X8_place (Γ : Cx) (l : Launch) (Λ : List Ly) (d : Dt) (p0 : Nat) (v1 : Int32) (v2 : Int32) (v3 : Int32) (z : Int32 × Dt) (hf : f_X8_place Λ d p0 v1 v2 v3 = some z) : Cn Γ l yX8_place cX8_place 6 (some FieldType.int) 5 107 [.ref (ad Γ.2.2.1 p0), .int v1, .int v2, .int v3] Λ d (some (.int z.1)) z.2 := by
  refine Cn.of (own := "SeasonBound") (by decide +kernel) rfl (Nat.le_of_ble_eq_true rfl) ?_
  intro p e s m below meth c C0 hr hlocks hH ls hl
  have hl : lv_has ls 6 [(0, .ref (ad Γ.2.2.1 p0)), (1, .int v1), (2, .int v2), (3, .int v3)] := hl
  obtain ⟨hx, hb, hml, hown, hts, hK⟩ := id C0
  unfold f_X8_place at hf
  refine lv_aload_n hx hb dX8_place_0 rfl (lv_at hl 0 rfl) ?_
  obtain ⟨q1, g1, hf⟩ := ob hf
  refine r_getr C0 hH fl_X8_24 g1 dX8_place_1 ?_
  refine lv_iload_n hx hb dX8_place_4 rfl (lv_at hl 1 rfl) ?_
  obtain ⟨g2, hf⟩ := gd hf
  obtain ⟨z3, h3, hf⟩ := ob hf
  refine r_callVi (rest := []) C0 hH (c_X7_has Γ l Λ d q1 v1 z3 h3) cv_X8_108 g2 (by decide) rfl hl.1 rfl (Nat.le_of_ble_eq_true rfl) dX8_place_5 (by decide) (fun H locs hH => ?_)
  refine lv_if_eq (tgt := 25) hx hb dX8_place_8 (by decide) (fun c4 => ?_) (fun c4 => ?_)
  · replace hf := it hf c4
    refine lv_iconst (v := (-1 : Int32)) hx hb dX8_place_25 (by decide) ?_
    obtain rfl := Option.some.inj hf
    exact r_iret (d' := d) C0 hr hlocks hH rfl dX8_place_26
  · replace hf := ie hf c4
    refine lv_iload_n hx hb dX8_place_11 rfl (lv_at hl 2 rfl) ?_
    refine r_callSi (rest := []) C0 hH (c_X8_isRun Γ l Λ d v2) cs_X8_176 (by decide) rfl hl.1 rfl (Nat.le_of_ble_eq_true rfl) dX8_place_12 (by decide) (fun H locs hH => ?_)
    refine lv_if_eq (tgt := 25) hx hb dX8_place_15 (by decide) (fun c5 => ?_) (fun c5 => ?_)
    · replace hf := it hf c5
      refine lv_iconst (v := (-1 : Int32)) hx hb dX8_place_25 (by decide) ?_
      obtain rfl := Option.some.inj hf
      exact r_iret (d' := d) C0 hr hlocks hH rfl dX8_place_26
    · replace hf := ie hf c5
      refine lv_iload_n hx hb dX8_place_18 rfl (lv_at hl 3 rfl) ?_
      refine r_callSi (rest := []) C0 hH (c_X8_isWhichOrHowMuch Γ l Λ d v3) cs_X8_188 (by decide) rfl hl.1 rfl (Nat.le_of_ble_eq_true rfl) dX8_place_19 (by decide) (fun H locs hH => ?_)
      refine lv_if_ne (tgt := 27) hx hb dX8_place_22 (by decide) (fun c6 => ?_) (fun c6 => ?_)
      · replace hf := ie hf c6
        refine lv_aload_n hx hb dX8_place_27 rfl (lv_at hl 0 rfl) ?_
        obtain ⟨q7, g7, hf⟩ := ob hf
        refine r_getr C0 hH fl_X8_48 g7 dX8_place_28 ?_
        refine lv_iconst (v := (-1 : Int32)) hx hb dX8_place_31 (by decide) ?_
        obtain ⟨g8, hf⟩ := gd hf
        obtain ⟨z9, h9, hf⟩ := ob hf
        refine r_callVv (rest := []) C0 hH (c_X0_seekAbove Γ l Λ d q7 (-1 : Int32) z9 h9) cv_X8_191 g8 (by decide) rfl hl.1 rfl (Nat.le_of_ble_eq_true rfl) dX8_place_32 (by decide) (fun H locs hH => ?_)
        refine lv_iconst (v := (0 : Int32)) hx hb dX8_place_35 (by decide) ?_
        refine lv_istore (lv' := [(4, .int (0 : Int32)), (0, .ref (ad Γ.2.2.1 p0)), (1, .int v1), (2, .int v2), (3, .int v3)]) hx hb dX8_place_36 hl (by decide) rfl (fun ls hl => ?_)
        refine w_X8_place_L38 C0 hr hlocks p0 v1 v2 v3 FU (0 : Int32) z9 hf _ _ _ hH (lv_sub hl [1, 2, 3, 4, 0] rfl)
      · replace hf := it hf c6
        refine lv_iconst (v := (-1 : Int32)) hx hb dX8_place_25 (by decide) ?_
        obtain rfl := Option.some.inj hf
        exact r_iret (d' := d) C0 hr hlocks hH rfl dX8_place_26
theorem dX8_skillsOfTrial_0 : decode cX8_skillsOfTrial 0 = .ok (.aload_n 0, 1) := by decide +kernel
theorem dX8_skillsOfTrial_1 : decode cX8_skillsOfTrial 1 = .ok (.getfield 28, 3) := by decide +kernel
theorem dX8_skillsOfTrial_4 : decode cX8_skillsOfTrial 4 = .ok (.iload_n 1, 1) := by decide +kernel
theorem dX8_skillsOfTrial_5 : decode cX8_skillsOfTrial 5 = .ok (.invokevirtual 173, 3) := by decide +kernel
theorem dX8_skillsOfTrial_8 : decode cX8_skillsOfTrial 8 = .ok (.aload_n 0, 1) := by decide +kernel
theorem dX8_skillsOfTrial_9 : decode cX8_skillsOfTrial 9 = .ok (.getfield 28, 3) := by decide +kernel
theorem dX8_skillsOfTrial_12 : decode cX8_skillsOfTrial 12 = .ok (.invokevirtual 105, 3) := by decide +kernel
theorem dX8_skillsOfTrial_15 : decode cX8_skillsOfTrial 15 = .ok (.ireturn, 1) := by decide +kernel
def f_X8_skillsOfTrial (Λ : List Ly) (d : Dt) (p0 : Nat) (v1 : Int32) : Option (Int32 × Dt) := Option.bind (rf Λ p0 8 3) fun q1 => if clsAt Λ q1 = some 7 then (Option.bind (f_X7_pass Λ d q1 v1) fun z3 => Option.bind (f_X7_skillSum Λ z3 q1) fun z4 => some (z4, z3)) else none
set_option maxHeartbeats 4000000 in
set_option maxRecDepth 100000 in
theorem c_X8_skillsOfTrial (Γ : Cx) (l : Launch) (Λ : List Ly) (d : Dt) (p0 : Nat) (v1 : Int32) (z : Int32 × Dt) (hf : f_X8_skillsOfTrial Λ d p0 v1 = some z) : Cn Γ l yX8_skillsOfTrial cX8_skillsOfTrial 2 (some FieldType.int) 5 107 [.ref (ad Γ.2.2.1 p0), .int v1] Λ d (some (.int z.1)) z.2 := by
  refine Cn.of (own := "SeasonBound") (by decide +kernel) rfl (Nat.le_of_ble_eq_true rfl) ?_
  intro p e s m below meth c C0 hr hlocks hH ls hl
  have hl : lv_has ls 2 [(0, .ref (ad Γ.2.2.1 p0)), (1, .int v1)] := hl
  obtain ⟨hx, hb, hml, hown, hts, hK⟩ := id C0
  unfold f_X8_skillsOfTrial at hf
  refine lv_aload_n hx hb dX8_skillsOfTrial_0 rfl (lv_at hl 0 rfl) ?_
  obtain ⟨q1, g1, hf⟩ := ob hf
  refine r_getr C0 hH fl_X8_28 g1 dX8_skillsOfTrial_1 ?_
  refine lv_iload_n hx hb dX8_skillsOfTrial_4 rfl (lv_at hl 1 rfl) ?_
  obtain ⟨g2, hf⟩ := gd hf
  obtain ⟨z3, h3, hf⟩ := ob hf
  refine r_callVv (rest := []) C0 hH (c_X7_pass Γ l Λ d q1 v1 z3 h3) cv_X8_173 g2 (by decide) rfl hl.1 rfl (Nat.le_of_ble_eq_true rfl) dX8_skillsOfTrial_5 (by decide) (fun H locs hH => ?_)
  refine lv_aload_n hx hb dX8_skillsOfTrial_8 rfl (lv_at hl 0 rfl) ?_
  refine r_getr C0 hH fl_X8_28 g1 dX8_skillsOfTrial_9 ?_
  obtain ⟨z4, h4, hf⟩ := ob hf
  refine r_callVi (rest := []) C0 hH (c_X7_skillSum Γ l Λ z3 q1 z4 h4) cv_X8_105 g2 (by decide) rfl hl.1 rfl (Nat.le_of_ble_eq_true rfl) dX8_skillsOfTrial_12 (by decide) (fun H locs hH => ?_)
  obtain rfl := Option.some.inj hf
  exact r_iret (d' := d) C0 hr hlocks hH rfl dX8_skillsOfTrial_15
theorem dX8_skillsAsItIs_0 : decode cX8_skillsAsItIs 0 = .ok (.aload_n 0, 1) := by decide +kernel
theorem dX8_skillsAsItIs_1 : decode cX8_skillsAsItIs 1 = .ok (.getfield 28, 3) := by decide +kernel
theorem dX8_skillsAsItIs_4 : decode cX8_skillsAsItIs 4 = .ok (.aload_n 0, 1) := by decide +kernel
theorem dX8_skillsAsItIs_5 : decode cX8_skillsAsItIs 5 = .ok (.getfield 24, 3) := by decide +kernel
theorem dX8_skillsAsItIs_8 : decode cX8_skillsAsItIs 8 = .ok (.invokevirtual 87, 3) := by decide +kernel
theorem dX8_skillsAsItIs_11 : decode cX8_skillsAsItIs 11 = .ok (.aload_n 0, 1) := by decide +kernel
theorem dX8_skillsAsItIs_12 : decode cX8_skillsAsItIs 12 = .ok (.iload_n 1, 1) := by decide +kernel
theorem dX8_skillsAsItIs_13 : decode cX8_skillsAsItIs 13 = .ok (.invokevirtual 207, 3) := by decide +kernel
theorem dX8_skillsAsItIs_16 : decode cX8_skillsAsItIs 16 = .ok (.ireturn, 1) := by decide +kernel
def f_X8_skillsAsItIs (Λ : List Ly) (d : Dt) (p0 : Nat) (v1 : Int32) : Option (Int32 × Dt) := Option.bind (rf Λ p0 8 3) fun q1 => Option.bind (rf Λ p0 8 2) fun q2 => if clsAt Λ q1 = some 7 then (Option.bind (f_X7_copy Λ d q1 q2) fun z4 => if clsAt Λ p0 = some 8 then (Option.bind (f_X8_skillsOfTrial Λ z4 p0 v1) fun z6 => some (z6.1, z6.2)) else none) else none
set_option maxHeartbeats 4000000 in
set_option maxRecDepth 100000 in
theorem c_X8_skillsAsItIs (Γ : Cx) (l : Launch) (Λ : List Ly) (d : Dt) (p0 : Nat) (v1 : Int32) (z : Int32 × Dt) (hf : f_X8_skillsAsItIs Λ d p0 v1 = some z) : Cn Γ l yX8_skillsAsItIs cX8_skillsAsItIs 2 (some FieldType.int) 6 128 [.ref (ad Γ.2.2.1 p0), .int v1] Λ d (some (.int z.1)) z.2 := by
  refine Cn.of (own := "SeasonBound") (by decide +kernel) rfl (Nat.le_of_ble_eq_true rfl) ?_
  intro p e s m below meth c C0 hr hlocks hH ls hl
  have hl : lv_has ls 2 [(0, .ref (ad Γ.2.2.1 p0)), (1, .int v1)] := hl
  obtain ⟨hx, hb, hml, hown, hts, hK⟩ := id C0
  unfold f_X8_skillsAsItIs at hf
  refine lv_aload_n hx hb dX8_skillsAsItIs_0 rfl (lv_at hl 0 rfl) ?_
  obtain ⟨q1, g1, hf⟩ := ob hf
  refine r_getr C0 hH fl_X8_28 g1 dX8_skillsAsItIs_1 ?_
  refine lv_aload_n hx hb dX8_skillsAsItIs_4 rfl (lv_at hl 0 rfl) ?_
  obtain ⟨q2, g2, hf⟩ := ob hf
  refine r_getr C0 hH fl_X8_24 g2 dX8_skillsAsItIs_5 ?_
  obtain ⟨g3, hf⟩ := gd hf
  obtain ⟨z4, h4, hf⟩ := ob hf
  refine r_callVv (rest := []) C0 hH (c_X7_copy Γ l Λ d q1 q2 z4 h4) cv_X8_87 g3 (by decide) rfl hl.1 rfl (Nat.le_of_ble_eq_true rfl) dX8_skillsAsItIs_8 (by decide) (fun H locs hH => ?_)
  refine lv_aload_n hx hb dX8_skillsAsItIs_11 rfl (lv_at hl 0 rfl) ?_
  refine lv_iload_n hx hb dX8_skillsAsItIs_12 rfl (lv_at hl 1 rfl) ?_
  obtain ⟨g5, hf⟩ := gd hf
  obtain ⟨z6, h6, hf⟩ := ob hf
  refine r_callVi (rest := []) C0 hH (c_X8_skillsOfTrial Γ l Λ z4 p0 v1 z6 h6) cv_X8_207 g5 (by decide) rfl hl.1 rfl (Nat.le_of_ble_eq_true rfl) dX8_skillsAsItIs_13 (by decide) (fun H locs hH => ?_)
  obtain rfl := Option.some.inj hf
  exact r_iret (d' := d) C0 hr hlocks hH rfl dX8_skillsAsItIs_16
theorem dX8_skillsIfSwapped_0 : decode cX8_skillsIfSwapped 0 = .ok (.aload_n 0, 1) := by decide +kernel
theorem dX8_skillsIfSwapped_1 : decode cX8_skillsIfSwapped 1 = .ok (.getfield 28, 3) := by decide +kernel
theorem dX8_skillsIfSwapped_4 : decode cX8_skillsIfSwapped 4 = .ok (.aload_n 0, 1) := by decide +kernel
theorem dX8_skillsIfSwapped_5 : decode cX8_skillsIfSwapped 5 = .ok (.getfield 24, 3) := by decide +kernel
theorem dX8_skillsIfSwapped_8 : decode cX8_skillsIfSwapped 8 = .ok (.invokevirtual 87, 3) := by decide +kernel
theorem dX8_skillsIfSwapped_11 : decode cX8_skillsIfSwapped 11 = .ok (.aload_n 0, 1) := by decide +kernel
theorem dX8_skillsIfSwapped_12 : decode cX8_skillsIfSwapped 12 = .ok (.getfield 28, 3) := by decide +kernel
theorem dX8_skillsIfSwapped_15 : decode cX8_skillsIfSwapped 15 = .ok (.getfield 112, 3) := by decide +kernel
theorem dX8_skillsIfSwapped_18 : decode cX8_skillsIfSwapped 18 = .ok (.iload_n 1, 1) := by decide +kernel
theorem dX8_skillsIfSwapped_19 : decode cX8_skillsIfSwapped 19 = .ok (.aaload, 1) := by decide +kernel
theorem dX8_skillsIfSwapped_20 : decode cX8_skillsIfSwapped 20 = .ok (.aload_n 0, 1) := by decide +kernel
theorem dX8_skillsIfSwapped_21 : decode cX8_skillsIfSwapped 21 = .ok (.getfield 24, 3) := by decide +kernel
theorem dX8_skillsIfSwapped_24 : decode cX8_skillsIfSwapped 24 = .ok (.getfield 112, 3) := by decide +kernel
theorem dX8_skillsIfSwapped_27 : decode cX8_skillsIfSwapped 27 = .ok (.iload_n 2, 1) := by decide +kernel
theorem dX8_skillsIfSwapped_28 : decode cX8_skillsIfSwapped 28 = .ok (.aaload, 1) := by decide +kernel
theorem dX8_skillsIfSwapped_29 : decode cX8_skillsIfSwapped 29 = .ok (.getfield 125, 3) := by decide +kernel
theorem dX8_skillsIfSwapped_32 : decode cX8_skillsIfSwapped 32 = .ok (.putfield 125, 3) := by decide +kernel
theorem dX8_skillsIfSwapped_35 : decode cX8_skillsIfSwapped 35 = .ok (.aload_n 0, 1) := by decide +kernel
theorem dX8_skillsIfSwapped_36 : decode cX8_skillsIfSwapped 36 = .ok (.getfield 28, 3) := by decide +kernel
theorem dX8_skillsIfSwapped_39 : decode cX8_skillsIfSwapped 39 = .ok (.getfield 112, 3) := by decide +kernel
theorem dX8_skillsIfSwapped_42 : decode cX8_skillsIfSwapped 42 = .ok (.iload_n 2, 1) := by decide +kernel
theorem dX8_skillsIfSwapped_43 : decode cX8_skillsIfSwapped 43 = .ok (.aaload, 1) := by decide +kernel
theorem dX8_skillsIfSwapped_44 : decode cX8_skillsIfSwapped 44 = .ok (.aload_n 0, 1) := by decide +kernel
theorem dX8_skillsIfSwapped_45 : decode cX8_skillsIfSwapped 45 = .ok (.getfield 24, 3) := by decide +kernel
theorem dX8_skillsIfSwapped_48 : decode cX8_skillsIfSwapped 48 = .ok (.getfield 112, 3) := by decide +kernel
theorem dX8_skillsIfSwapped_51 : decode cX8_skillsIfSwapped 51 = .ok (.iload_n 1, 1) := by decide +kernel
theorem dX8_skillsIfSwapped_52 : decode cX8_skillsIfSwapped 52 = .ok (.aaload, 1) := by decide +kernel
theorem dX8_skillsIfSwapped_53 : decode cX8_skillsIfSwapped 53 = .ok (.getfield 125, 3) := by decide +kernel
theorem dX8_skillsIfSwapped_56 : decode cX8_skillsIfSwapped 56 = .ok (.putfield 125, 3) := by decide +kernel
theorem dX8_skillsIfSwapped_59 : decode cX8_skillsIfSwapped 59 = .ok (.aload_n 0, 1) := by decide +kernel
theorem dX8_skillsIfSwapped_60 : decode cX8_skillsIfSwapped 60 = .ok (.iload_n 3, 1) := by decide +kernel
theorem dX8_skillsIfSwapped_61 : decode cX8_skillsIfSwapped 61 = .ok (.invokevirtual 207, 3) := by decide +kernel
theorem dX8_skillsIfSwapped_64 : decode cX8_skillsIfSwapped 64 = .ok (.ireturn, 1) := by decide +kernel
def f_X8_skillsIfSwapped (Λ : List Ly) (d : Dt) (p0 : Nat) (v1 : Int32) (v2 : Int32) (v3 : Int32) : Option (Int32 × Dt) := Option.bind (rf Λ p0 8 3) fun q1 => Option.bind (rf Λ p0 8 2) fun q2 => if clsAt Λ q1 = some 7 then (Option.bind (f_X7_copy Λ d q1 q2) fun z4 => Option.bind (rf Λ q1 7 1) fun q5 => Option.bind (ra Λ q5 4 v1) fun q6 => Option.bind (rf Λ q2 7 1) fun q7 => Option.bind (ra Λ q7 4 v2) fun q8 => if clsAt Λ q8 = some 1 then (if clsAt Λ q6 = some 1 then (Option.bind (ra Λ q5 4 v2) fun q11 => Option.bind (ra Λ q7 4 v1) fun q12 => if clsAt Λ q12 = some 1 then (if clsAt Λ q11 = some 1 then (if clsAt Λ p0 = some 8 then (Option.bind (f_X8_skillsOfTrial Λ (pI (pI z4 q6 1 (z4.1 q8 1)) q11 1 ((pI z4 q6 1 (z4.1 q8 1)).1 q12 1)) p0 v3) fun z16 => some (z16.1, z16.2)) else none) else none) else none) else none) else none) else none
set_option maxHeartbeats 4000000 in
set_option maxRecDepth 100000 in
theorem c_X8_skillsIfSwapped (Γ : Cx) (l : Launch) (Λ : List Ly) (d : Dt) (p0 : Nat) (v1 : Int32) (v2 : Int32) (v3 : Int32) (z : Int32 × Dt) (hf : f_X8_skillsIfSwapped Λ d p0 v1 v2 v3 = some z) : Cn Γ l yX8_skillsIfSwapped cX8_skillsIfSwapped 4 (some FieldType.int) 6 128 [.ref (ad Γ.2.2.1 p0), .int v1, .int v2, .int v3] Λ d (some (.int z.1)) z.2 := by
  refine Cn.of (own := "SeasonBound") (by decide +kernel) rfl (Nat.le_of_ble_eq_true rfl) ?_
  intro p e s m below meth c C0 hr hlocks hH ls hl
  have hl : lv_has ls 4 [(0, .ref (ad Γ.2.2.1 p0)), (1, .int v1), (2, .int v2), (3, .int v3)] := hl
  obtain ⟨hx, hb, hml, hown, hts, hK⟩ := id C0
  unfold f_X8_skillsIfSwapped at hf
  refine lv_aload_n hx hb dX8_skillsIfSwapped_0 rfl (lv_at hl 0 rfl) ?_
  obtain ⟨q1, g1, hf⟩ := ob hf
  refine r_getr C0 hH fl_X8_28 g1 dX8_skillsIfSwapped_1 ?_
  refine lv_aload_n hx hb dX8_skillsIfSwapped_4 rfl (lv_at hl 0 rfl) ?_
  obtain ⟨q2, g2, hf⟩ := ob hf
  refine r_getr C0 hH fl_X8_24 g2 dX8_skillsIfSwapped_5 ?_
  obtain ⟨g3, hf⟩ := gd hf
  obtain ⟨z4, h4, hf⟩ := ob hf
  refine r_callVv (rest := []) C0 hH (c_X7_copy Γ l Λ d q1 q2 z4 h4) cv_X8_87 g3 (by decide) rfl hl.1 rfl (Nat.le_of_ble_eq_true rfl) dX8_skillsIfSwapped_8 (by decide) (fun H locs hH => ?_)
  refine lv_aload_n hx hb dX8_skillsIfSwapped_11 rfl (lv_at hl 0 rfl) ?_
  refine r_getr C0 hH fl_X8_28 g1 dX8_skillsIfSwapped_12 ?_
  obtain ⟨q5, g5, hf⟩ := ob hf
  refine r_getr C0 hH fl_X8_112 g5 dX8_skillsIfSwapped_15 ?_
  refine lv_iload_n hx hb dX8_skillsIfSwapped_18 rfl (lv_at hl 1 rfl) ?_
  obtain ⟨q6, g6, hf⟩ := ob hf
  refine r_aald (C := "SeasonBound$Child") C0 hH g6 (by decide) rfl dX8_skillsIfSwapped_19 ?_
  refine lv_aload_n hx hb dX8_skillsIfSwapped_20 rfl (lv_at hl 0 rfl) ?_
  refine r_getr C0 hH fl_X8_24 g2 dX8_skillsIfSwapped_21 ?_
  obtain ⟨q7, g7, hf⟩ := ob hf
  refine r_getr C0 hH fl_X8_112 g7 dX8_skillsIfSwapped_24 ?_
  refine lv_iload_n hx hb dX8_skillsIfSwapped_27 rfl (lv_at hl 2 rfl) ?_
  obtain ⟨q8, g8, hf⟩ := ob hf
  refine r_aald (C := "SeasonBound$Child") C0 hH g8 (by decide) rfl dX8_skillsIfSwapped_28 ?_
  obtain ⟨g9, hf⟩ := gd hf
  refine r_geti C0 hH fl_X8_125 g9 rfl dX8_skillsIfSwapped_29 ?_
  obtain ⟨g10, hf⟩ := gd hf
  refine r_puti C0 hH fw_X8_125 g10 rfl dX8_skillsIfSwapped_32 (fun H locs hH => ?_)
  refine lv_aload_n hx hb dX8_skillsIfSwapped_35 rfl (lv_at hl 0 rfl) ?_
  refine r_getr C0 hH fl_X8_28 g1 dX8_skillsIfSwapped_36 ?_
  refine r_getr C0 hH fl_X8_112 g5 dX8_skillsIfSwapped_39 ?_
  refine lv_iload_n hx hb dX8_skillsIfSwapped_42 rfl (lv_at hl 2 rfl) ?_
  obtain ⟨q11, g11, hf⟩ := ob hf
  refine r_aald (C := "SeasonBound$Child") C0 hH g11 (by decide) rfl dX8_skillsIfSwapped_43 ?_
  refine lv_aload_n hx hb dX8_skillsIfSwapped_44 rfl (lv_at hl 0 rfl) ?_
  refine r_getr C0 hH fl_X8_24 g2 dX8_skillsIfSwapped_45 ?_
  refine r_getr C0 hH fl_X8_112 g7 dX8_skillsIfSwapped_48 ?_
  refine lv_iload_n hx hb dX8_skillsIfSwapped_51 rfl (lv_at hl 1 rfl) ?_
  obtain ⟨q12, g12, hf⟩ := ob hf
  refine r_aald (C := "SeasonBound$Child") C0 hH g12 (by decide) rfl dX8_skillsIfSwapped_52 ?_
  obtain ⟨g13, hf⟩ := gd hf
  refine r_geti C0 hH fl_X8_125 g13 rfl dX8_skillsIfSwapped_53 ?_
  obtain ⟨g14, hf⟩ := gd hf
  refine r_puti C0 hH fw_X8_125 g14 rfl dX8_skillsIfSwapped_56 (fun H locs hH => ?_)
  refine lv_aload_n hx hb dX8_skillsIfSwapped_59 rfl (lv_at hl 0 rfl) ?_
  refine lv_iload_n hx hb dX8_skillsIfSwapped_60 rfl (lv_at hl 3 rfl) ?_
  obtain ⟨g15, hf⟩ := gd hf
  obtain ⟨z16, h16, hf⟩ := ob hf
  refine r_callVi (rest := []) C0 hH (c_X8_skillsOfTrial Γ l Λ (pI (pI z4 q6 1 (z4.1 q8 1)) q11 1 ((pI z4 q6 1 (z4.1 q8 1)).1 q12 1)) p0 v3 z16 h16) cv_X8_207 g15 (by decide) rfl hl.1 rfl (Nat.le_of_ble_eq_true rfl) dX8_skillsIfSwapped_61 (by decide) (fun H locs hH => ?_)
  obtain rfl := Option.some.inj hf
  exact r_iret (d' := d) C0 hr hlocks hH rfl dX8_skillsIfSwapped_64
theorem dX8_swap_0 : decode cX8_swap 0 = .ok (.iload_n 1, 1) := by decide +kernel
theorem dX8_swap_1 : decode cX8_swap 1 = .ok (.invokestatic 176, 3) := by decide +kernel
theorem dX8_swap_4 : decode cX8_swap 4 = .ok (.ifCond .eq 10, 3) := by decide +kernel
theorem dX8_swap_7 : decode cX8_swap 7 = .ok (.iload_n 2, 1) := by decide +kernel
theorem dX8_swap_8 : decode cX8_swap 8 = .ok (.invokestatic 188, 3) := by decide +kernel
theorem dX8_swap_11 : decode cX8_swap 11 = .ok (.ifCond .ne 5, 3) := by decide +kernel
theorem dX8_swap_14 : decode cX8_swap 14 = .ok (.iconst (-1), 1) := by decide +kernel
theorem dX8_swap_15 : decode cX8_swap 15 = .ok (.ireturn, 1) := by decide +kernel
theorem dX8_swap_16 : decode cX8_swap 16 = .ok (.aload_n 0, 1) := by decide +kernel
theorem dX8_swap_17 : decode cX8_swap 17 = .ok (.getfield 48, 3) := by decide +kernel
theorem dX8_swap_20 : decode cX8_swap 20 = .ok (.aload_n 0, 1) := by decide +kernel
theorem dX8_swap_21 : decode cX8_swap 21 = .ok (.iload_n 1, 1) := by decide +kernel
theorem dX8_swap_22 : decode cX8_swap 22 = .ok (.invokevirtual 201, 3) := by decide +kernel
theorem dX8_swap_25 : decode cX8_swap 25 = .ok (.invokevirtual 191, 3) := by decide +kernel
theorem dX8_swap_28 : decode cX8_swap 28 = .ok (.iconst 0, 1) := by decide +kernel
theorem dX8_swap_29 : decode cX8_swap 29 = .ok (.istore_n 3, 1) := by decide +kernel
theorem dX8_swap_30 : decode cX8_swap 30 = .ok (.iload_n 3, 1) := by decide +kernel
theorem dX8_swap_31 : decode cX8_swap 31 = .ok (.aload_n 0, 1) := by decide +kernel
theorem dX8_swap_32 : decode cX8_swap 32 = .ok (.getfield 24, 3) := by decide +kernel
theorem dX8_swap_35 : decode cX8_swap 35 = .ok (.getfield 91, 3) := by decide +kernel
theorem dX8_swap_38 : decode cX8_swap 38 = .ok (.if_icmp .ge 85, 3) := by decide +kernel
theorem dX8_swap_41 : decode cX8_swap 41 = .ok (.iload_n 3, 1) := by decide +kernel
theorem dX8_swap_42 : decode cX8_swap 42 = .ok (.iconst 1, 1) := by decide +kernel
theorem dX8_swap_43 : decode cX8_swap 43 = .ok (.iadd, 1) := by decide +kernel
theorem dX8_swap_44 : decode cX8_swap 44 = .ok (.istore 4, 2) := by decide +kernel
theorem dX8_swap_46 : decode cX8_swap 46 = .ok (.iload 4, 2) := by decide +kernel
theorem dX8_swap_48 : decode cX8_swap 48 = .ok (.aload_n 0, 1) := by decide +kernel
theorem dX8_swap_49 : decode cX8_swap 49 = .ok (.getfield 24, 3) := by decide +kernel
theorem dX8_swap_52 : decode cX8_swap 52 = .ok (.getfield 91, 3) := by decide +kernel
theorem dX8_swap_55 : decode cX8_swap 55 = .ok (.if_icmp .ge 62, 3) := by decide +kernel
theorem dX8_swap_58 : decode cX8_swap 58 = .ok (.aload_n 0, 1) := by decide +kernel
theorem dX8_swap_59 : decode cX8_swap 59 = .ok (.getfield 24, 3) := by decide +kernel
theorem dX8_swap_62 : decode cX8_swap 62 = .ok (.getfield 112, 3) := by decide +kernel
theorem dX8_swap_65 : decode cX8_swap 65 = .ok (.iload_n 3, 1) := by decide +kernel
theorem dX8_swap_66 : decode cX8_swap 66 = .ok (.aaload, 1) := by decide +kernel
theorem dX8_swap_67 : decode cX8_swap 67 = .ok (.invokevirtual 121, 3) := by decide +kernel
theorem dX8_swap_70 : decode cX8_swap 70 = .ok (.ifCond .ne 41, 3) := by decide +kernel
theorem dX8_swap_73 : decode cX8_swap 73 = .ok (.aload_n 0, 1) := by decide +kernel
theorem dX8_swap_74 : decode cX8_swap 74 = .ok (.getfield 24, 3) := by decide +kernel
theorem dX8_swap_77 : decode cX8_swap 77 = .ok (.getfield 112, 3) := by decide +kernel
theorem dX8_swap_80 : decode cX8_swap 80 = .ok (.iload 4, 2) := by decide +kernel
theorem dX8_swap_82 : decode cX8_swap 82 = .ok (.aaload, 1) := by decide +kernel
theorem dX8_swap_83 : decode cX8_swap 83 = .ok (.invokevirtual 121, 3) := by decide +kernel
theorem dX8_swap_86 : decode cX8_swap 86 = .ok (.ifCond .ne 25, 3) := by decide +kernel
theorem dX8_swap_89 : decode cX8_swap 89 = .ok (.aload_n 0, 1) := by decide +kernel
theorem dX8_swap_90 : decode cX8_swap 90 = .ok (.getfield 48, 3) := by decide +kernel
theorem dX8_swap_93 : decode cX8_swap 93 = .ok (.bipush 10, 2) := by decide +kernel
theorem dX8_swap_95 : decode cX8_swap 95 = .ok (.iload_n 3, 1) := by decide +kernel
theorem dX8_swap_96 : decode cX8_swap 96 = .ok (.imul, 1) := by decide +kernel
theorem dX8_swap_97 : decode cX8_swap 97 = .ok (.iload 4, 2) := by decide +kernel
theorem dX8_swap_99 : decode cX8_swap 99 = .ok (.iadd, 1) := by decide +kernel
theorem dX8_swap_100 : decode cX8_swap 100 = .ok (.aload_n 0, 1) := by decide +kernel
theorem dX8_swap_101 : decode cX8_swap 101 = .ok (.iload_n 3, 1) := by decide +kernel
theorem dX8_swap_102 : decode cX8_swap 102 = .ok (.iload 4, 2) := by decide +kernel
theorem dX8_swap_104 : decode cX8_swap 104 = .ok (.iload_n 1, 1) := by decide +kernel
theorem dX8_swap_105 : decode cX8_swap 105 = .ok (.invokevirtual 204, 3) := by decide +kernel
theorem dX8_swap_108 : decode cX8_swap 108 = .ok (.invokevirtual 194, 3) := by decide +kernel
theorem dX8_swap_111 : decode cX8_swap 111 = .ok (.iinc 4 1, 3) := by decide +kernel
theorem dX8_swap_114 : decode cX8_swap 114 = .ok (.goto (-68), 3) := by decide +kernel
theorem dX8_swap_117 : decode cX8_swap 117 = .ok (.iinc 3 1, 3) := by decide +kernel
theorem dX8_swap_120 : decode cX8_swap 120 = .ok (.goto (-90), 3) := by decide +kernel
theorem dX8_swap_123 : decode cX8_swap 123 = .ok (.aload_n 0, 1) := by decide +kernel
theorem dX8_swap_124 : decode cX8_swap 124 = .ok (.getfield 48, 3) := by decide +kernel
theorem dX8_swap_127 : decode cX8_swap 127 = .ok (.iload_n 2, 1) := by decide +kernel
theorem dX8_swap_128 : decode cX8_swap 128 = .ok (.invokevirtual 198, 3) := by decide +kernel
theorem dX8_swap_131 : decode cX8_swap 131 = .ok (.ireturn, 1) := by decide +kernel
def f_X8_swap_L46 (Λ : List Ly) (p0 : Nat) (v1 : Int32) (v2 : Int32) (v3 : Int32) (k117 : Int32 → Dt → Option (Int32 × Dt)) : Nat → Int32 → Dt → Option (Int32 × Dt)
  | 0, _, _ => none
  | n + 1, v4, d => Option.bind (rf Λ p0 8 2) fun q14 => if clsAt Λ q14 = some 7 then (if (d.1 q14 2) ≤ v4 then (k117 v4 d) else (Option.bind (rf Λ q14 7 1) fun q17 => Option.bind (ra Λ q17 4 v3) fun q18 => if clsAt Λ q18 = some 1 then (Option.bind (f_X1_isFree Λ d q18) fun z20 => if z20 = 0 then (Option.bind (ra Λ q17 4 v4) fun q22 => if clsAt Λ q22 = some 1 then (Option.bind (f_X1_isFree Λ d q22) fun z24 => if z24 = 0 then (Option.bind (rf Λ p0 8 7) fun q26 => if clsAt Λ p0 = some 8 then (Option.bind (f_X8_skillsIfSwapped Λ d p0 v3 v4 v1) fun z28 => if clsAt Λ q26 = some 0 then (Option.bind (f_X0_offer Λ z28.2 q26 (((10 : Int32) * v3) + v4) z28.1) fun z30 => f_X8_swap_L46 Λ p0 v1 v2 v3 k117 n (v4 + (1 : Int32)) z30) else none) else none) else (f_X8_swap_L46 Λ p0 v1 v2 v3 k117 n (v4 + (1 : Int32)) d)) else none) else (f_X8_swap_L46 Λ p0 v1 v2 v3 k117 n (v4 + (1 : Int32)) d)) else none)) else none
def f_X8_swap_L30 (Λ : List Ly) (p0 : Nat) (v1 : Int32) (v2 : Int32) : Nat → Int32 → Dt → Option (Int32 × Dt)
  | 0, _, _ => none
  | n + 1, v3, d => Option.bind (rf Λ p0 8 2) fun q8 => if clsAt Λ q8 = some 7 then (if (d.1 q8 2) ≤ v3 then (Option.bind (rf Λ p0 8 7) fun q11 => if clsAt Λ q11 = some 0 then (Option.bind (f_X0_told Λ d q11 v2) fun z13 => some (z13, d)) else none) else (f_X8_swap_L46 Λ p0 v1 v2 v3 (fun x31_4 d31 => f_X8_swap_L30 Λ p0 v1 v2 n (v3 + (1 : Int32)) d31) FU (v3 + (1 : Int32)) d)) else none
def f_X8_swap (Λ : List Ly) (d : Dt) (p0 : Nat) (v1 : Int32) (v2 : Int32) : Option (Int32 × Dt) := if (f_X8_isRun v1) = 0 then (some ((-1 : Int32), d)) else (if (f_X8_isWhichOrHowMuch v2) = 0 then (some ((-1 : Int32), d)) else (Option.bind (rf Λ p0 8 7) fun q3 => if clsAt Λ p0 = some 8 then (Option.bind (f_X8_skillsAsItIs Λ d p0 v1) fun z5 => if clsAt Λ q3 = some 0 then (Option.bind (f_X0_seekAbove Λ z5.2 q3 z5.1) fun z7 => f_X8_swap_L30 Λ p0 v1 v2 FU (0 : Int32) z7) else none) else none))
set_option maxHeartbeats 4000000 in
set_option maxRecDepth 100000 in
theorem w_X8_swap_L46 {p : Program} {l : Launch} {e : Env} {s : State} {m : MethodId} {args : Array Value} {below : List Frame} {meth : Method} {c : Code} {Γ : Cx} {Λ : List Ly} {z : Int32 × Dt} (C0 : Ct Γ p s m args c cX8_swap 5 "SeasonBound") (hr : meth.sig.returnType = (some FieldType.int)) (hlocks : meth.locks = false) (k117 : Int32 → Dt → Option (Int32 × Dt)) (p0 : Nat) (v1 : Int32) (v2 : Int32) (v3 : Int32)
    (hk117 : ∀ (v4 : Int32) (d : Dt), (k117 v4 d = some z) → ∀ (H : Heap) (locs : List Loc) (ls : Array Slot), Hs Γ Λ d s H locs → lv_has ls 5 [(0, .ref (ad Γ.2.2.1 p0)), (1, .int v1), (2, .int v2), (3, .int v3), (4, .int v4)] → W p l e { frames := 7, cells := 0, slots := 0, locals := 151 } s m args below meth c H locs 0 0 (MQ below (QN Γ Λ z.2 (some (.int z.1))) args s 0 0 (AP Γ)) (F0 m 117 ls [])) :
    ∀ (n : Nat) (v4 : Int32) (d : Dt), f_X8_swap_L46 Λ p0 v1 v2 v3 k117 n v4 d = some z → ∀ (H : Heap) (locs : List Loc) (ls : Array Slot), Hs Γ Λ d s H locs → lv_has ls 5 [(0, .ref (ad Γ.2.2.1 p0)), (1, .int v1), (2, .int v2), (3, .int v3), (4, .int v4)] → W p l e { frames := 7, cells := 0, slots := 0, locals := 151 } s m args below meth c H locs 0 0 (MQ below (QN Γ Λ z.2 (some (.int z.1))) args s 0 0 (AP Γ)) (F0 m 46 ls []) := by
  obtain ⟨hx, hb, hml, hown, hts, hK⟩ := id C0
  intro n
  induction n with
  | zero =>
    intro v4 d hf
    cases hf
  | succ n ih =>
    intro v4 d hf H locs ls hH hl
    unfold f_X8_swap_L46 at hf
    refine lv_iload hx hb dX8_swap_46 (lv_at hl 4 rfl) ?_
    refine lv_aload_n hx hb dX8_swap_48 rfl (lv_at hl 0 rfl) ?_
    obtain ⟨q14, g14, hf⟩ := ob hf
    refine r_getr C0 hH fl_X8_24 g14 dX8_swap_49 ?_
    obtain ⟨g15, hf⟩ := gd hf
    refine r_geti C0 hH fl_X8_91 g15 rfl dX8_swap_52 ?_
    refine lv_icmp_ge (tgt := 117) hx hb dX8_swap_55 (by decide) (fun c16 => ?_) (fun c16 => ?_)
    · replace hf := it hf c16
      exact hk117 v4 d hf _ _ _ hH (lv_sub hl [0, 1, 2, 3, 4] rfl)
    · replace hf := ie hf c16
      refine lv_aload_n hx hb dX8_swap_58 rfl (lv_at hl 0 rfl) ?_
      refine r_getr C0 hH fl_X8_24 g14 dX8_swap_59 ?_
      obtain ⟨q17, g17, hf⟩ := ob hf
      refine r_getr C0 hH fl_X8_112 g17 dX8_swap_62 ?_
      refine lv_iload_n hx hb dX8_swap_65 rfl (lv_at hl 3 rfl) ?_
      obtain ⟨q18, g18, hf⟩ := ob hf
      refine r_aald (C := "SeasonBound$Child") C0 hH g18 (by decide) rfl dX8_swap_66 ?_
      obtain ⟨g19, hf⟩ := gd hf
      obtain ⟨z20, h20, hf⟩ := ob hf
      refine r_callVi (rest := []) C0 hH (c_X1_isFree Γ l Λ d q18 z20 h20) cv_X8_121 g19 (by decide) rfl hl.1 rfl (Nat.le_of_ble_eq_true rfl) dX8_swap_67 (by decide) (fun H locs hH => ?_)
      refine lv_if_ne (tgt := 111) hx hb dX8_swap_70 (by decide) (fun c21 => ?_) (fun c21 => ?_)
      · replace hf := ie hf c21
        refine lv_iinc (v := (v4 + (1 : Int32))) (lv' := [(4, .int (v4 + (1 : Int32))), (0, .ref (ad Γ.2.2.1 p0)), (1, .int v1), (2, .int v2), (3, .int v3)]) hx hb dX8_swap_111 hl (k := 4) rfl (congrArg (fun w => v4 + w) (by decide)) (by decide) rfl (fun ls hl => ?_)
        refine lv_goto (tgt := 46) hx hb dX8_swap_114 (by decide) ?_
        exact ih (v4 + (1 : Int32)) d hf _ _ _ hH (lv_sub hl [1, 2, 3, 4, 0] rfl)
      · replace hf := it hf c21
        refine lv_aload_n hx hb dX8_swap_73 rfl (lv_at hl 0 rfl) ?_
        refine r_getr C0 hH fl_X8_24 g14 dX8_swap_74 ?_
        refine r_getr C0 hH fl_X8_112 g17 dX8_swap_77 ?_
        refine lv_iload hx hb dX8_swap_80 (lv_at hl 4 rfl) ?_
        obtain ⟨q22, g22, hf⟩ := ob hf
        refine r_aald (C := "SeasonBound$Child") C0 hH g22 (by decide) rfl dX8_swap_82 ?_
        obtain ⟨g23, hf⟩ := gd hf
        obtain ⟨z24, h24, hf⟩ := ob hf
        refine r_callVi (rest := []) C0 hH (c_X1_isFree Γ l Λ d q22 z24 h24) cv_X8_121 g23 (by decide) rfl hl.1 rfl (Nat.le_of_ble_eq_true rfl) dX8_swap_83 (by decide) (fun H locs hH => ?_)
        refine lv_if_ne (tgt := 111) hx hb dX8_swap_86 (by decide) (fun c25 => ?_) (fun c25 => ?_)
        · replace hf := ie hf c25
          refine lv_iinc (v := (v4 + (1 : Int32))) (lv' := [(4, .int (v4 + (1 : Int32))), (0, .ref (ad Γ.2.2.1 p0)), (1, .int v1), (2, .int v2), (3, .int v3)]) hx hb dX8_swap_111 hl (k := 4) rfl (congrArg (fun w => v4 + w) (by decide)) (by decide) rfl (fun ls hl => ?_)
          refine lv_goto (tgt := 46) hx hb dX8_swap_114 (by decide) ?_
          exact ih (v4 + (1 : Int32)) d hf _ _ _ hH (lv_sub hl [1, 2, 3, 4, 0] rfl)
        · replace hf := it hf c25
          refine lv_aload_n hx hb dX8_swap_89 rfl (lv_at hl 0 rfl) ?_
          obtain ⟨q26, g26, hf⟩ := ob hf
          refine r_getr C0 hH fl_X8_48 g26 dX8_swap_90 ?_
          refine lv_bipush (v := (10 : Int32)) hx hb dX8_swap_93 (by decide) ?_
          refine lv_iload_n hx hb dX8_swap_95 rfl (lv_at hl 3 rfl) ?_
          refine lv_imul hx hb dX8_swap_96 ?_
          refine lv_iload hx hb dX8_swap_97 (lv_at hl 4 rfl) ?_
          refine lv_iadd hx hb dX8_swap_99 ?_
          refine lv_aload_n hx hb dX8_swap_100 rfl (lv_at hl 0 rfl) ?_
          refine lv_iload_n hx hb dX8_swap_101 rfl (lv_at hl 3 rfl) ?_
          refine lv_iload hx hb dX8_swap_102 (lv_at hl 4 rfl) ?_
          refine lv_iload_n hx hb dX8_swap_104 rfl (lv_at hl 1 rfl) ?_
          obtain ⟨g27, hf⟩ := gd hf
          obtain ⟨z28, h28, hf⟩ := ob hf
          refine r_callVi (rest := [.int (((10 : Int32) * v3) + v4), .ref (ad Γ.2.2.1 q26)]) C0 hH (c_X8_skillsIfSwapped Γ l Λ d p0 v3 v4 v1 z28 h28) cv_X8_204 g27 (by decide) rfl hl.1 rfl (Nat.le_of_ble_eq_true rfl) dX8_swap_105 (by decide) (fun H locs hH => ?_)
          obtain ⟨g29, hf⟩ := gd hf
          obtain ⟨z30, h30, hf⟩ := ob hf
          refine r_callVv (rest := []) C0 hH (c_X0_offer Γ l Λ z28.2 q26 (((10 : Int32) * v3) + v4) z28.1 z30 h30) cv_X8_194 g29 (by decide) rfl hl.1 rfl (Nat.le_of_ble_eq_true rfl) dX8_swap_108 (by decide) (fun H locs hH => ?_)
          refine lv_iinc (v := (v4 + (1 : Int32))) (lv' := [(4, .int (v4 + (1 : Int32))), (0, .ref (ad Γ.2.2.1 p0)), (1, .int v1), (2, .int v2), (3, .int v3)]) hx hb dX8_swap_111 hl (k := 4) rfl (congrArg (fun w => v4 + w) (by decide)) (by decide) rfl (fun ls hl => ?_)
          refine lv_goto (tgt := 46) hx hb dX8_swap_114 (by decide) ?_
          exact ih (v4 + (1 : Int32)) z30 hf _ _ _ hH (lv_sub hl [1, 2, 3, 4, 0] rfl)
set_option maxHeartbeats 4000000 in
set_option maxRecDepth 100000 in
theorem w_X8_swap_L30 {p : Program} {l : Launch} {e : Env} {s : State} {m : MethodId} {args : Array Value} {below : List Frame} {meth : Method} {c : Code} {Γ : Cx} {Λ : List Ly} {z : Int32 × Dt} (C0 : Ct Γ p s m args c cX8_swap 5 "SeasonBound") (hr : meth.sig.returnType = (some FieldType.int)) (hlocks : meth.locks = false) (p0 : Nat) (v1 : Int32) (v2 : Int32) :
    ∀ (n : Nat) (v3 : Int32) (d : Dt), f_X8_swap_L30 Λ p0 v1 v2 n v3 d = some z → ∀ (H : Heap) (locs : List Loc) (ls : Array Slot), Hs Γ Λ d s H locs → lv_has ls 5 [(0, .ref (ad Γ.2.2.1 p0)), (1, .int v1), (2, .int v2), (3, .int v3)] → W p l e { frames := 7, cells := 0, slots := 0, locals := 151 } s m args below meth c H locs 0 0 (MQ below (QN Γ Λ z.2 (some (.int z.1))) args s 0 0 (AP Γ)) (F0 m 30 ls []) := by
  obtain ⟨hx, hb, hml, hown, hts, hK⟩ := id C0
  intro n
  induction n with
  | zero =>
    intro v3 d hf
    cases hf
  | succ n ih =>
    intro v3 d hf H locs ls hH hl
    unfold f_X8_swap_L30 at hf
    refine lv_iload_n hx hb dX8_swap_30 rfl (lv_at hl 3 rfl) ?_
    refine lv_aload_n hx hb dX8_swap_31 rfl (lv_at hl 0 rfl) ?_
    obtain ⟨q8, g8, hf⟩ := ob hf
    refine r_getr C0 hH fl_X8_24 g8 dX8_swap_32 ?_
    obtain ⟨g9, hf⟩ := gd hf
    refine r_geti C0 hH fl_X8_91 g9 rfl dX8_swap_35 ?_
    refine lv_icmp_ge (tgt := 123) hx hb dX8_swap_38 (by decide) (fun c10 => ?_) (fun c10 => ?_)
    · replace hf := it hf c10
      refine lv_aload_n hx hb dX8_swap_123 rfl (lv_at hl 0 rfl) ?_
      obtain ⟨q11, g11, hf⟩ := ob hf
      refine r_getr C0 hH fl_X8_48 g11 dX8_swap_124 ?_
      refine lv_iload_n hx hb dX8_swap_127 rfl (lv_at hl 2 rfl) ?_
      obtain ⟨g12, hf⟩ := gd hf
      obtain ⟨z13, h13, hf⟩ := ob hf
      refine r_callVi (rest := []) C0 hH (c_X0_told Γ l Λ d q11 v2 z13 h13) cv_X8_198 g12 (by decide) rfl hl.1 rfl (Nat.le_of_ble_eq_true rfl) dX8_swap_128 (by decide) (fun H locs hH => ?_)
      obtain rfl := Option.some.inj hf
      exact r_iret (d' := d) C0 hr hlocks hH rfl dX8_swap_131
    · replace hf := ie hf c10
      refine lv_iload_n hx hb dX8_swap_41 rfl (lv_at hl 3 rfl) ?_
      refine lv_iconst (v := (1 : Int32)) hx hb dX8_swap_42 (by decide) ?_
      refine lv_iadd hx hb dX8_swap_43 ?_
      refine lv_istore (lv' := [(4, .int (v3 + (1 : Int32))), (0, .ref (ad Γ.2.2.1 p0)), (1, .int v1), (2, .int v2), (3, .int v3)]) hx hb dX8_swap_44 hl (by decide) rfl (fun ls hl => ?_)
      refine w_X8_swap_L46 C0 hr hlocks _ p0 v1 v2 v3 ?k117 FU (v3 + (1 : Int32)) d hf _ _ _ hH (lv_sub hl [1, 2, 3, 4, 0] rfl)
      case k117 =>
        intro x31_4 d31 hf H locs ls hH hl
        refine lv_iinc (v := (v3 + (1 : Int32))) (lv' := [(3, .int (v3 + (1 : Int32))), (0, .ref (ad Γ.2.2.1 p0)), (1, .int v1), (2, .int v2), (4, .int x31_4)]) hx hb dX8_swap_117 hl (k := 3) rfl (congrArg (fun w => v3 + w) (by decide)) (by decide) rfl (fun ls hl => ?_)
        refine lv_goto (tgt := 30) hx hb dX8_swap_120 (by decide) ?_
        exact ih (v3 + (1 : Int32)) d31 hf _ _ _ hH (lv_sub hl [1, 2, 3, 0] rfl)
set_option maxHeartbeats 4000000 in
set_option maxRecDepth 100000 in
theorem c_X8_swap (Γ : Cx) (l : Launch) (Λ : List Ly) (d : Dt) (p0 : Nat) (v1 : Int32) (v2 : Int32) (z : Int32 × Dt) (hf : f_X8_swap Λ d p0 v1 v2 = some z) : Cn Γ l yX8_swap cX8_swap 5 (some FieldType.int) 7 151 [.ref (ad Γ.2.2.1 p0), .int v1, .int v2] Λ d (some (.int z.1)) z.2 := by
  refine Cn.of (own := "SeasonBound") (by decide +kernel) rfl (Nat.le_of_ble_eq_true rfl) ?_
  intro p e s m below meth c C0 hr hlocks hH ls hl
  have hl : lv_has ls 5 [(0, .ref (ad Γ.2.2.1 p0)), (1, .int v1), (2, .int v2)] := hl
  obtain ⟨hx, hb, hml, hown, hts, hK⟩ := id C0
  unfold f_X8_swap at hf
  refine lv_iload_n hx hb dX8_swap_0 rfl (lv_at hl 1 rfl) ?_
  refine r_callSi (rest := []) C0 hH (c_X8_isRun Γ l Λ d v1) cs_X8_176 (by decide) rfl hl.1 rfl (Nat.le_of_ble_eq_true rfl) dX8_swap_1 (by decide) (fun H locs hH => ?_)
  refine lv_if_eq (tgt := 14) hx hb dX8_swap_4 (by decide) (fun c1 => ?_) (fun c1 => ?_)
  · replace hf := it hf c1
    refine lv_iconst (v := (-1 : Int32)) hx hb dX8_swap_14 (by decide) ?_
    obtain rfl := Option.some.inj hf
    exact r_iret (d' := d) C0 hr hlocks hH rfl dX8_swap_15
  · replace hf := ie hf c1
    refine lv_iload_n hx hb dX8_swap_7 rfl (lv_at hl 2 rfl) ?_
    refine r_callSi (rest := []) C0 hH (c_X8_isWhichOrHowMuch Γ l Λ d v2) cs_X8_188 (by decide) rfl hl.1 rfl (Nat.le_of_ble_eq_true rfl) dX8_swap_8 (by decide) (fun H locs hH => ?_)
    refine lv_if_ne (tgt := 16) hx hb dX8_swap_11 (by decide) (fun c2 => ?_) (fun c2 => ?_)
    · replace hf := ie hf c2
      refine lv_aload_n hx hb dX8_swap_16 rfl (lv_at hl 0 rfl) ?_
      obtain ⟨q3, g3, hf⟩ := ob hf
      refine r_getr C0 hH fl_X8_48 g3 dX8_swap_17 ?_
      refine lv_aload_n hx hb dX8_swap_20 rfl (lv_at hl 0 rfl) ?_
      refine lv_iload_n hx hb dX8_swap_21 rfl (lv_at hl 1 rfl) ?_
      obtain ⟨g4, hf⟩ := gd hf
      obtain ⟨z5, h5, hf⟩ := ob hf
      refine r_callVi (rest := [.ref (ad Γ.2.2.1 q3)]) C0 hH (c_X8_skillsAsItIs Γ l Λ d p0 v1 z5 h5) cv_X8_201 g4 (by decide) rfl hl.1 rfl (Nat.le_of_ble_eq_true rfl) dX8_swap_22 (by decide) (fun H locs hH => ?_)
      obtain ⟨g6, hf⟩ := gd hf
      obtain ⟨z7, h7, hf⟩ := ob hf
      refine r_callVv (rest := []) C0 hH (c_X0_seekAbove Γ l Λ z5.2 q3 z5.1 z7 h7) cv_X8_191 g6 (by decide) rfl hl.1 rfl (Nat.le_of_ble_eq_true rfl) dX8_swap_25 (by decide) (fun H locs hH => ?_)
      refine lv_iconst (v := (0 : Int32)) hx hb dX8_swap_28 (by decide) ?_
      refine lv_istore_n (lv' := [(3, .int (0 : Int32)), (0, .ref (ad Γ.2.2.1 p0)), (1, .int v1), (2, .int v2)]) hx hb dX8_swap_29 rfl hl (by decide) rfl (fun ls hl => ?_)
      refine w_X8_swap_L30 C0 hr hlocks p0 v1 v2 FU (0 : Int32) z7 hf _ _ _ hH (lv_sub hl [1, 2, 3, 0] rfl)
    · replace hf := it hf c2
      refine lv_iconst (v := (-1 : Int32)) hx hb dX8_swap_14 (by decide) ?_
      obtain rfl := Option.some.inj hf
      exact r_iret (d' := d) C0 hr hlocks hH rfl dX8_swap_15
theorem dX8_span_0 : decode cX8_span 0 = .ok (.iload_n 1, 1) := by decide +kernel
theorem dX8_span_1 : decode cX8_span 1 = .ok (.invokestatic 150, 3) := by decide +kernel
theorem dX8_span_4 : decode cX8_span 4 = .ok (.ifCond .eq 17, 3) := by decide +kernel
theorem dX8_span_7 : decode cX8_span 7 = .ok (.iload_n 2, 1) := by decide +kernel
theorem dX8_span_8 : decode cX8_span 8 = .ok (.invokestatic 176, 3) := by decide +kernel
theorem dX8_span_11 : decode cX8_span 11 = .ok (.ifCond .eq 10, 3) := by decide +kernel
theorem dX8_span_14 : decode cX8_span 14 = .ok (.iload_n 3, 1) := by decide +kernel
theorem dX8_span_15 : decode cX8_span 15 = .ok (.invokestatic 188, 3) := by decide +kernel
theorem dX8_span_18 : decode cX8_span 18 = .ok (.ifCond .ne 5, 3) := by decide +kernel
theorem dX8_span_21 : decode cX8_span 21 = .ok (.iconst (-1), 1) := by decide +kernel
theorem dX8_span_22 : decode cX8_span 22 = .ok (.ireturn, 1) := by decide +kernel
theorem dX8_span_23 : decode cX8_span 23 = .ok (.aload_n 0, 1) := by decide +kernel
theorem dX8_span_24 : decode cX8_span 24 = .ok (.getfield 48, 3) := by decide +kernel
theorem dX8_span_27 : decode cX8_span 27 = .ok (.iconst (-1), 1) := by decide +kernel
theorem dX8_span_28 : decode cX8_span 28 = .ok (.invokevirtual 191, 3) := by decide +kernel
theorem dX8_span_31 : decode cX8_span 31 = .ok (.iconst 1, 1) := by decide +kernel
theorem dX8_span_32 : decode cX8_span 32 = .ok (.istore 4, 2) := by decide +kernel
theorem dX8_span_34 : decode cX8_span 34 = .ok (.iload 4, 2) := by decide +kernel
theorem dX8_span_36 : decode cX8_span 36 = .ok (.bipush 9, 2) := by decide +kernel
theorem dX8_span_38 : decode cX8_span 38 = .ok (.if_icmp .gt 48, 3) := by decide +kernel
theorem dX8_span_41 : decode cX8_span 41 = .ok (.aload_n 0, 1) := by decide +kernel
theorem dX8_span_42 : decode cX8_span 42 = .ok (.getfield 28, 3) := by decide +kernel
theorem dX8_span_45 : decode cX8_span 45 = .ok (.aload_n 0, 1) := by decide +kernel
theorem dX8_span_46 : decode cX8_span 46 = .ok (.getfield 24, 3) := by decide +kernel
theorem dX8_span_49 : decode cX8_span 49 = .ok (.invokevirtual 87, 3) := by decide +kernel
theorem dX8_span_52 : decode cX8_span 52 = .ok (.aload_n 0, 1) := by decide +kernel
theorem dX8_span_53 : decode cX8_span 53 = .ok (.getfield 28, 3) := by decide +kernel
theorem dX8_span_56 : decode cX8_span 56 = .ok (.getfield 137, 3) := by decide +kernel
theorem dX8_span_59 : decode cX8_span 59 = .ok (.iload_n 1, 1) := by decide +kernel
theorem dX8_span_60 : decode cX8_span 60 = .ok (.aaload, 1) := by decide +kernel
theorem dX8_span_61 : decode cX8_span 61 = .ok (.iload 4, 2) := by decide +kernel
theorem dX8_span_63 : decode cX8_span 63 = .ok (.putfield 153, 3) := by decide +kernel
theorem dX8_span_66 : decode cX8_span 66 = .ok (.aload_n 0, 1) := by decide +kernel
theorem dX8_span_67 : decode cX8_span 67 = .ok (.getfield 48, 3) := by decide +kernel
theorem dX8_span_70 : decode cX8_span 70 = .ok (.iload 4, 2) := by decide +kernel
theorem dX8_span_72 : decode cX8_span 72 = .ok (.aload_n 0, 1) := by decide +kernel
theorem dX8_span_73 : decode cX8_span 73 = .ok (.iload_n 2, 1) := by decide +kernel
theorem dX8_span_74 : decode cX8_span 74 = .ok (.invokevirtual 207, 3) := by decide +kernel
theorem dX8_span_77 : decode cX8_span 77 = .ok (.invokevirtual 194, 3) := by decide +kernel
theorem dX8_span_80 : decode cX8_span 80 = .ok (.iinc 4 1, 3) := by decide +kernel
theorem dX8_span_83 : decode cX8_span 83 = .ok (.goto (-49), 3) := by decide +kernel
theorem dX8_span_86 : decode cX8_span 86 = .ok (.aload_n 0, 1) := by decide +kernel
theorem dX8_span_87 : decode cX8_span 87 = .ok (.getfield 48, 3) := by decide +kernel
theorem dX8_span_90 : decode cX8_span 90 = .ok (.iload_n 3, 1) := by decide +kernel
theorem dX8_span_91 : decode cX8_span 91 = .ok (.invokevirtual 198, 3) := by decide +kernel
theorem dX8_span_94 : decode cX8_span 94 = .ok (.ireturn, 1) := by decide +kernel
def f_X8_span_L34 (Λ : List Ly) (p0 : Nat) (v1 : Int32) (v2 : Int32) (v3 : Int32) : Nat → Int32 → Dt → Option (Int32 × Dt)
  | 0, _, _ => none
  | n + 1, v4, d => if (9 : Int32) < v4 then (Option.bind (rf Λ p0 8 7) fun q8 => if clsAt Λ q8 = some 0 then (Option.bind (f_X0_told Λ d q8 v3) fun z10 => some (z10, d)) else none) else (Option.bind (rf Λ p0 8 3) fun q11 => Option.bind (rf Λ p0 8 2) fun q12 => if clsAt Λ q11 = some 7 then (Option.bind (f_X7_copy Λ d q11 q12) fun z14 => Option.bind (rf Λ q11 7 0) fun q15 => Option.bind (ra Λ q15 5 v1) fun q16 => if clsAt Λ q16 = some 4 then (Option.bind (rf Λ p0 8 7) fun q18 => if clsAt Λ p0 = some 8 then (Option.bind (f_X8_skillsOfTrial Λ (pI z14 q16 0 v4) p0 v2) fun z20 => if clsAt Λ q18 = some 0 then (Option.bind (f_X0_offer Λ z20.2 q18 v4 z20.1) fun z22 => f_X8_span_L34 Λ p0 v1 v2 v3 n (v4 + (1 : Int32)) z22) else none) else none) else none) else none)
def f_X8_span (Λ : List Ly) (d : Dt) (p0 : Nat) (v1 : Int32) (v2 : Int32) (v3 : Int32) : Option (Int32 × Dt) := if (f_X8_isSeason v1) = 0 then (some ((-1 : Int32), d)) else (if (f_X8_isRun v2) = 0 then (some ((-1 : Int32), d)) else (if (f_X8_isWhichOrHowMuch v3) = 0 then (some ((-1 : Int32), d)) else (Option.bind (rf Λ p0 8 7) fun q4 => if clsAt Λ q4 = some 0 then (Option.bind (f_X0_seekAbove Λ d q4 (-1 : Int32)) fun z6 => f_X8_span_L34 Λ p0 v1 v2 v3 FU (1 : Int32) z6) else none)))
set_option maxHeartbeats 4000000 in
set_option maxRecDepth 100000 in
theorem w_X8_span_L34 {p : Program} {l : Launch} {e : Env} {s : State} {m : MethodId} {args : Array Value} {below : List Frame} {meth : Method} {c : Code} {Γ : Cx} {Λ : List Ly} {z : Int32 × Dt} (C0 : Ct Γ p s m args c cX8_span 5 "SeasonBound") (hr : meth.sig.returnType = (some FieldType.int)) (hlocks : meth.locks = false) (p0 : Nat) (v1 : Int32) (v2 : Int32) (v3 : Int32) :
    ∀ (n : Nat) (v4 : Int32) (d : Dt), f_X8_span_L34 Λ p0 v1 v2 v3 n v4 d = some z → ∀ (H : Heap) (locs : List Loc) (ls : Array Slot), Hs Γ Λ d s H locs → lv_has ls 5 [(0, .ref (ad Γ.2.2.1 p0)), (1, .int v1), (2, .int v2), (3, .int v3), (4, .int v4)] → W p l e { frames := 6, cells := 0, slots := 0, locals := 128 } s m args below meth c H locs 0 0 (MQ below (QN Γ Λ z.2 (some (.int z.1))) args s 0 0 (AP Γ)) (F0 m 34 ls []) := by
  obtain ⟨hx, hb, hml, hown, hts, hK⟩ := id C0
  intro n
  induction n with
  | zero =>
    intro v4 d hf
    cases hf
  | succ n ih =>
    intro v4 d hf H locs ls hH hl
    unfold f_X8_span_L34 at hf
    refine lv_iload hx hb dX8_span_34 (lv_at hl 4 rfl) ?_
    refine lv_bipush (v := (9 : Int32)) hx hb dX8_span_36 (by decide) ?_
    refine lv_icmp_gt (tgt := 86) hx hb dX8_span_38 (by decide) (fun c7 => ?_) (fun c7 => ?_)
    · replace hf := it hf c7
      refine lv_aload_n hx hb dX8_span_86 rfl (lv_at hl 0 rfl) ?_
      obtain ⟨q8, g8, hf⟩ := ob hf
      refine r_getr C0 hH fl_X8_48 g8 dX8_span_87 ?_
      refine lv_iload_n hx hb dX8_span_90 rfl (lv_at hl 3 rfl) ?_
      obtain ⟨g9, hf⟩ := gd hf
      obtain ⟨z10, h10, hf⟩ := ob hf
      refine r_callVi (rest := []) C0 hH (c_X0_told Γ l Λ d q8 v3 z10 h10) cv_X8_198 g9 (by decide) rfl hl.1 rfl (Nat.le_of_ble_eq_true rfl) dX8_span_91 (by decide) (fun H locs hH => ?_)
      obtain rfl := Option.some.inj hf
      exact r_iret (d' := d) C0 hr hlocks hH rfl dX8_span_94
    · replace hf := ie hf c7
      refine lv_aload_n hx hb dX8_span_41 rfl (lv_at hl 0 rfl) ?_
      obtain ⟨q11, g11, hf⟩ := ob hf
      refine r_getr C0 hH fl_X8_28 g11 dX8_span_42 ?_
      refine lv_aload_n hx hb dX8_span_45 rfl (lv_at hl 0 rfl) ?_
      obtain ⟨q12, g12, hf⟩ := ob hf
      refine r_getr C0 hH fl_X8_24 g12 dX8_span_46 ?_
      obtain ⟨g13, hf⟩ := gd hf
      obtain ⟨z14, h14, hf⟩ := ob hf
      refine r_callVv (rest := []) C0 hH (c_X7_copy Γ l Λ d q11 q12 z14 h14) cv_X8_87 g13 (by decide) rfl hl.1 rfl (Nat.le_of_ble_eq_true rfl) dX8_span_49 (by decide) (fun H locs hH => ?_)
      refine lv_aload_n hx hb dX8_span_52 rfl (lv_at hl 0 rfl) ?_
      refine r_getr C0 hH fl_X8_28 g11 dX8_span_53 ?_
      obtain ⟨q15, g15, hf⟩ := ob hf
      refine r_getr C0 hH fl_X8_137 g15 dX8_span_56 ?_
      refine lv_iload_n hx hb dX8_span_59 rfl (lv_at hl 1 rfl) ?_
      obtain ⟨q16, g16, hf⟩ := ob hf
      refine r_aald (C := "SeasonBound$Season") C0 hH g16 (by decide) rfl dX8_span_60 ?_
      refine lv_iload hx hb dX8_span_61 (lv_at hl 4 rfl) ?_
      obtain ⟨g17, hf⟩ := gd hf
      refine r_puti C0 hH fw_X8_153 g17 rfl dX8_span_63 (fun H locs hH => ?_)
      refine lv_aload_n hx hb dX8_span_66 rfl (lv_at hl 0 rfl) ?_
      obtain ⟨q18, g18, hf⟩ := ob hf
      refine r_getr C0 hH fl_X8_48 g18 dX8_span_67 ?_
      refine lv_iload hx hb dX8_span_70 (lv_at hl 4 rfl) ?_
      refine lv_aload_n hx hb dX8_span_72 rfl (lv_at hl 0 rfl) ?_
      refine lv_iload_n hx hb dX8_span_73 rfl (lv_at hl 2 rfl) ?_
      obtain ⟨g19, hf⟩ := gd hf
      obtain ⟨z20, h20, hf⟩ := ob hf
      refine r_callVi (rest := [.int v4, .ref (ad Γ.2.2.1 q18)]) C0 hH (c_X8_skillsOfTrial Γ l Λ (pI z14 q16 0 v4) p0 v2 z20 h20) cv_X8_207 g19 (by decide) rfl hl.1 rfl (Nat.le_of_ble_eq_true rfl) dX8_span_74 (by decide) (fun H locs hH => ?_)
      obtain ⟨g21, hf⟩ := gd hf
      obtain ⟨z22, h22, hf⟩ := ob hf
      refine r_callVv (rest := []) C0 hH (c_X0_offer Γ l Λ z20.2 q18 v4 z20.1 z22 h22) cv_X8_194 g21 (by decide) rfl hl.1 rfl (Nat.le_of_ble_eq_true rfl) dX8_span_77 (by decide) (fun H locs hH => ?_)
      refine lv_iinc (v := (v4 + (1 : Int32))) (lv' := [(4, .int (v4 + (1 : Int32))), (0, .ref (ad Γ.2.2.1 p0)), (1, .int v1), (2, .int v2), (3, .int v3)]) hx hb dX8_span_80 hl (k := 4) rfl (congrArg (fun w => v4 + w) (by decide)) (by decide) rfl (fun ls hl => ?_)
      refine lv_goto (tgt := 34) hx hb dX8_span_83 (by decide) ?_
      exact ih (v4 + (1 : Int32)) z22 hf _ _ _ hH (lv_sub hl [1, 2, 3, 4, 0] rfl)
set_option maxHeartbeats 4000000 in
set_option maxRecDepth 100000 in
theorem c_X8_span (Γ : Cx) (l : Launch) (Λ : List Ly) (d : Dt) (p0 : Nat) (v1 : Int32) (v2 : Int32) (v3 : Int32) (z : Int32 × Dt) (hf : f_X8_span Λ d p0 v1 v2 v3 = some z) : Cn Γ l yX8_span cX8_span 5 (some FieldType.int) 6 128 [.ref (ad Γ.2.2.1 p0), .int v1, .int v2, .int v3] Λ d (some (.int z.1)) z.2 := by
  refine Cn.of (own := "SeasonBound") (by decide +kernel) rfl (Nat.le_of_ble_eq_true rfl) ?_
  intro p e s m below meth c C0 hr hlocks hH ls hl
  have hl : lv_has ls 5 [(0, .ref (ad Γ.2.2.1 p0)), (1, .int v1), (2, .int v2), (3, .int v3)] := hl
  obtain ⟨hx, hb, hml, hown, hts, hK⟩ := id C0
  unfold f_X8_span at hf
  refine lv_iload_n hx hb dX8_span_0 rfl (lv_at hl 1 rfl) ?_
  refine r_callSi (rest := []) C0 hH (c_X8_isSeason Γ l Λ d v1) cs_X8_150 (by decide) rfl hl.1 rfl (Nat.le_of_ble_eq_true rfl) dX8_span_1 (by decide) (fun H locs hH => ?_)
  refine lv_if_eq (tgt := 21) hx hb dX8_span_4 (by decide) (fun c1 => ?_) (fun c1 => ?_)
  · replace hf := it hf c1
    refine lv_iconst (v := (-1 : Int32)) hx hb dX8_span_21 (by decide) ?_
    obtain rfl := Option.some.inj hf
    exact r_iret (d' := d) C0 hr hlocks hH rfl dX8_span_22
  · replace hf := ie hf c1
    refine lv_iload_n hx hb dX8_span_7 rfl (lv_at hl 2 rfl) ?_
    refine r_callSi (rest := []) C0 hH (c_X8_isRun Γ l Λ d v2) cs_X8_176 (by decide) rfl hl.1 rfl (Nat.le_of_ble_eq_true rfl) dX8_span_8 (by decide) (fun H locs hH => ?_)
    refine lv_if_eq (tgt := 21) hx hb dX8_span_11 (by decide) (fun c2 => ?_) (fun c2 => ?_)
    · replace hf := it hf c2
      refine lv_iconst (v := (-1 : Int32)) hx hb dX8_span_21 (by decide) ?_
      obtain rfl := Option.some.inj hf
      exact r_iret (d' := d) C0 hr hlocks hH rfl dX8_span_22
    · replace hf := ie hf c2
      refine lv_iload_n hx hb dX8_span_14 rfl (lv_at hl 3 rfl) ?_
      refine r_callSi (rest := []) C0 hH (c_X8_isWhichOrHowMuch Γ l Λ d v3) cs_X8_188 (by decide) rfl hl.1 rfl (Nat.le_of_ble_eq_true rfl) dX8_span_15 (by decide) (fun H locs hH => ?_)
      refine lv_if_ne (tgt := 23) hx hb dX8_span_18 (by decide) (fun c3 => ?_) (fun c3 => ?_)
      · replace hf := ie hf c3
        refine lv_aload_n hx hb dX8_span_23 rfl (lv_at hl 0 rfl) ?_
        obtain ⟨q4, g4, hf⟩ := ob hf
        refine r_getr C0 hH fl_X8_48 g4 dX8_span_24 ?_
        refine lv_iconst (v := (-1 : Int32)) hx hb dX8_span_27 (by decide) ?_
        obtain ⟨g5, hf⟩ := gd hf
        obtain ⟨z6, h6, hf⟩ := ob hf
        refine r_callVv (rest := []) C0 hH (c_X0_seekAbove Γ l Λ d q4 (-1 : Int32) z6 h6) cv_X8_191 g5 (by decide) rfl hl.1 rfl (Nat.le_of_ble_eq_true rfl) dX8_span_28 (by decide) (fun H locs hH => ?_)
        refine lv_iconst (v := (1 : Int32)) hx hb dX8_span_31 (by decide) ?_
        refine lv_istore (lv' := [(4, .int (1 : Int32)), (0, .ref (ad Γ.2.2.1 p0)), (1, .int v1), (2, .int v2), (3, .int v3)]) hx hb dX8_span_32 hl (by decide) rfl (fun ls hl => ?_)
        refine w_X8_span_L34 C0 hr hlocks p0 v1 v2 v3 FU (1 : Int32) z6 hf _ _ _ hH (lv_sub hl [1, 2, 3, 4, 0] rfl)
      · replace hf := it hf c3
        refine lv_iconst (v := (-1 : Int32)) hx hb dX8_span_21 (by decide) ?_
        obtain rfl := Option.some.inj hf
        exact r_iret (d' := d) C0 hr hlocks hH rfl dX8_span_22
theorem dX8_gift_0 : decode cX8_gift 0 = .ok (.iload_n 1, 1) := by decide +kernel
theorem dX8_gift_1 : decode cX8_gift 1 = .ok (.invokestatic 176, 3) := by decide +kernel
theorem dX8_gift_4 : decode cX8_gift 4 = .ok (.ifCond .eq 10, 3) := by decide +kernel
theorem dX8_gift_7 : decode cX8_gift 7 = .ok (.iload_n 2, 1) := by decide +kernel
theorem dX8_gift_8 : decode cX8_gift 8 = .ok (.invokestatic 188, 3) := by decide +kernel
theorem dX8_gift_11 : decode cX8_gift 11 = .ok (.ifCond .ne 5, 3) := by decide +kernel
theorem dX8_gift_14 : decode cX8_gift 14 = .ok (.iconst (-1), 1) := by decide +kernel
theorem dX8_gift_15 : decode cX8_gift 15 = .ok (.ireturn, 1) := by decide +kernel
theorem dX8_gift_16 : decode cX8_gift 16 = .ok (.aload_n 0, 1) := by decide +kernel
theorem dX8_gift_17 : decode cX8_gift 17 = .ok (.getfield 48, 3) := by decide +kernel
theorem dX8_gift_20 : decode cX8_gift 20 = .ok (.aload_n 0, 1) := by decide +kernel
theorem dX8_gift_21 : decode cX8_gift 21 = .ok (.iload_n 1, 1) := by decide +kernel
theorem dX8_gift_22 : decode cX8_gift 22 = .ok (.invokevirtual 201, 3) := by decide +kernel
theorem dX8_gift_25 : decode cX8_gift 25 = .ok (.invokevirtual 191, 3) := by decide +kernel
theorem dX8_gift_28 : decode cX8_gift 28 = .ok (.iconst 0, 1) := by decide +kernel
theorem dX8_gift_29 : decode cX8_gift 29 = .ok (.istore_n 3, 1) := by decide +kernel
theorem dX8_gift_30 : decode cX8_gift 30 = .ok (.iload_n 3, 1) := by decide +kernel
theorem dX8_gift_31 : decode cX8_gift 31 = .ok (.iconst 4, 1) := by decide +kernel
theorem dX8_gift_32 : decode cX8_gift 32 = .ok (.if_icmp .ge 68, 3) := by decide +kernel
theorem dX8_gift_35 : decode cX8_gift 35 = .ok (.aload_n 0, 1) := by decide +kernel
theorem dX8_gift_36 : decode cX8_gift 36 = .ok (.getfield 24, 3) := by decide +kernel
theorem dX8_gift_39 : decode cX8_gift 39 = .ok (.getfield 137, 3) := by decide +kernel
theorem dX8_gift_42 : decode cX8_gift 42 = .ok (.iload_n 3, 1) := by decide +kernel
theorem dX8_gift_43 : decode cX8_gift 43 = .ok (.aaload, 1) := by decide +kernel
theorem dX8_gift_44 : decode cX8_gift 44 = .ok (.getfield 141, 3) := by decide +kernel
theorem dX8_gift_47 : decode cX8_gift 47 = .ok (.bipush 9, 2) := by decide +kernel
theorem dX8_gift_49 : decode cX8_gift 49 = .ok (.if_icmp .ge 45, 3) := by decide +kernel
theorem dX8_gift_52 : decode cX8_gift 52 = .ok (.aload_n 0, 1) := by decide +kernel
theorem dX8_gift_53 : decode cX8_gift 53 = .ok (.getfield 28, 3) := by decide +kernel
theorem dX8_gift_56 : decode cX8_gift 56 = .ok (.aload_n 0, 1) := by decide +kernel
theorem dX8_gift_57 : decode cX8_gift 57 = .ok (.getfield 24, 3) := by decide +kernel
theorem dX8_gift_60 : decode cX8_gift 60 = .ok (.invokevirtual 87, 3) := by decide +kernel
theorem dX8_gift_63 : decode cX8_gift 63 = .ok (.aload_n 0, 1) := by decide +kernel
theorem dX8_gift_64 : decode cX8_gift 64 = .ok (.getfield 28, 3) := by decide +kernel
theorem dX8_gift_67 : decode cX8_gift 67 = .ok (.getfield 137, 3) := by decide +kernel
theorem dX8_gift_70 : decode cX8_gift 70 = .ok (.iload_n 3, 1) := by decide +kernel
theorem dX8_gift_71 : decode cX8_gift 71 = .ok (.aaload, 1) := by decide +kernel
theorem dX8_gift_72 : decode cX8_gift 72 = .ok (.dup, 1) := by decide +kernel
theorem dX8_gift_73 : decode cX8_gift 73 = .ok (.getfield 141, 3) := by decide +kernel
theorem dX8_gift_76 : decode cX8_gift 76 = .ok (.iconst 1, 1) := by decide +kernel
theorem dX8_gift_77 : decode cX8_gift 77 = .ok (.iadd, 1) := by decide +kernel
theorem dX8_gift_78 : decode cX8_gift 78 = .ok (.putfield 141, 3) := by decide +kernel
theorem dX8_gift_81 : decode cX8_gift 81 = .ok (.aload_n 0, 1) := by decide +kernel
theorem dX8_gift_82 : decode cX8_gift 82 = .ok (.getfield 48, 3) := by decide +kernel
theorem dX8_gift_85 : decode cX8_gift 85 = .ok (.iload_n 3, 1) := by decide +kernel
theorem dX8_gift_86 : decode cX8_gift 86 = .ok (.aload_n 0, 1) := by decide +kernel
theorem dX8_gift_87 : decode cX8_gift 87 = .ok (.iload_n 1, 1) := by decide +kernel
theorem dX8_gift_88 : decode cX8_gift 88 = .ok (.invokevirtual 207, 3) := by decide +kernel
theorem dX8_gift_91 : decode cX8_gift 91 = .ok (.invokevirtual 194, 3) := by decide +kernel
theorem dX8_gift_94 : decode cX8_gift 94 = .ok (.iinc 3 1, 3) := by decide +kernel
theorem dX8_gift_97 : decode cX8_gift 97 = .ok (.goto (-67), 3) := by decide +kernel
theorem dX8_gift_100 : decode cX8_gift 100 = .ok (.aload_n 0, 1) := by decide +kernel
theorem dX8_gift_101 : decode cX8_gift 101 = .ok (.getfield 48, 3) := by decide +kernel
theorem dX8_gift_104 : decode cX8_gift 104 = .ok (.iload_n 2, 1) := by decide +kernel
theorem dX8_gift_105 : decode cX8_gift 105 = .ok (.invokevirtual 198, 3) := by decide +kernel
theorem dX8_gift_108 : decode cX8_gift 108 = .ok (.ireturn, 1) := by decide +kernel
def f_X8_gift_L30 (Λ : List Ly) (p0 : Nat) (v1 : Int32) (v2 : Int32) : Nat → Int32 → Dt → Option (Int32 × Dt)
  | 0, _, _ => none
  | n + 1, v3, d => if (4 : Int32) ≤ v3 then (Option.bind (rf Λ p0 8 7) fun q9 => if clsAt Λ q9 = some 0 then (Option.bind (f_X0_told Λ d q9 v2) fun z11 => some (z11, d)) else none) else (Option.bind (rf Λ p0 8 2) fun q12 => Option.bind (rf Λ q12 7 0) fun q13 => Option.bind (ra Λ q13 5 v3) fun q14 => if clsAt Λ q14 = some 4 then (if (9 : Int32) ≤ (d.1 q14 1) then (f_X8_gift_L30 Λ p0 v1 v2 n (v3 + (1 : Int32)) d) else (Option.bind (rf Λ p0 8 3) fun q17 => if clsAt Λ q17 = some 7 then (Option.bind (f_X7_copy Λ d q17 q12) fun z19 => Option.bind (rf Λ q17 7 0) fun q20 => Option.bind (ra Λ q20 5 v3) fun q21 => if clsAt Λ q21 = some 4 then (Option.bind (rf Λ p0 8 7) fun q23 => if clsAt Λ p0 = some 8 then (Option.bind (f_X8_skillsOfTrial Λ (pI z19 q21 1 ((z19.1 q21 1) + (1 : Int32))) p0 v1) fun z25 => if clsAt Λ q23 = some 0 then (Option.bind (f_X0_offer Λ z25.2 q23 v3 z25.1) fun z27 => f_X8_gift_L30 Λ p0 v1 v2 n (v3 + (1 : Int32)) z27) else none) else none) else none) else none)) else none)
def f_X8_gift (Λ : List Ly) (d : Dt) (p0 : Nat) (v1 : Int32) (v2 : Int32) : Option (Int32 × Dt) := if (f_X8_isRun v1) = 0 then (some ((-1 : Int32), d)) else (if (f_X8_isWhichOrHowMuch v2) = 0 then (some ((-1 : Int32), d)) else (Option.bind (rf Λ p0 8 7) fun q3 => if clsAt Λ p0 = some 8 then (Option.bind (f_X8_skillsAsItIs Λ d p0 v1) fun z5 => if clsAt Λ q3 = some 0 then (Option.bind (f_X0_seekAbove Λ z5.2 q3 z5.1) fun z7 => f_X8_gift_L30 Λ p0 v1 v2 FU (0 : Int32) z7) else none) else none))
set_option maxHeartbeats 4000000 in
set_option maxRecDepth 100000 in
theorem w_X8_gift_L30 {p : Program} {l : Launch} {e : Env} {s : State} {m : MethodId} {args : Array Value} {below : List Frame} {meth : Method} {c : Code} {Γ : Cx} {Λ : List Ly} {z : Int32 × Dt} (C0 : Ct Γ p s m args c cX8_gift 4 "SeasonBound") (hr : meth.sig.returnType = (some FieldType.int)) (hlocks : meth.locks = false) (p0 : Nat) (v1 : Int32) (v2 : Int32) :
    ∀ (n : Nat) (v3 : Int32) (d : Dt), f_X8_gift_L30 Λ p0 v1 v2 n v3 d = some z → ∀ (H : Heap) (locs : List Loc) (ls : Array Slot), Hs Γ Λ d s H locs → lv_has ls 4 [(0, .ref (ad Γ.2.2.1 p0)), (1, .int v1), (2, .int v2), (3, .int v3)] → W p l e { frames := 7, cells := 0, slots := 0, locals := 149 } s m args below meth c H locs 0 0 (MQ below (QN Γ Λ z.2 (some (.int z.1))) args s 0 0 (AP Γ)) (F0 m 30 ls []) := by
  obtain ⟨hx, hb, hml, hown, hts, hK⟩ := id C0
  intro n
  induction n with
  | zero =>
    intro v3 d hf
    cases hf
  | succ n ih =>
    intro v3 d hf H locs ls hH hl
    unfold f_X8_gift_L30 at hf
    refine lv_iload_n hx hb dX8_gift_30 rfl (lv_at hl 3 rfl) ?_
    refine lv_iconst (v := (4 : Int32)) hx hb dX8_gift_31 (by decide) ?_
    refine lv_icmp_ge (tgt := 100) hx hb dX8_gift_32 (by decide) (fun c8 => ?_) (fun c8 => ?_)
    · replace hf := it hf c8
      refine lv_aload_n hx hb dX8_gift_100 rfl (lv_at hl 0 rfl) ?_
      obtain ⟨q9, g9, hf⟩ := ob hf
      refine r_getr C0 hH fl_X8_48 g9 dX8_gift_101 ?_
      refine lv_iload_n hx hb dX8_gift_104 rfl (lv_at hl 2 rfl) ?_
      obtain ⟨g10, hf⟩ := gd hf
      obtain ⟨z11, h11, hf⟩ := ob hf
      refine r_callVi (rest := []) C0 hH (c_X0_told Γ l Λ d q9 v2 z11 h11) cv_X8_198 g10 (by decide) rfl hl.1 rfl (Nat.le_of_ble_eq_true rfl) dX8_gift_105 (by decide) (fun H locs hH => ?_)
      obtain rfl := Option.some.inj hf
      exact r_iret (d' := d) C0 hr hlocks hH rfl dX8_gift_108
    · replace hf := ie hf c8
      refine lv_aload_n hx hb dX8_gift_35 rfl (lv_at hl 0 rfl) ?_
      obtain ⟨q12, g12, hf⟩ := ob hf
      refine r_getr C0 hH fl_X8_24 g12 dX8_gift_36 ?_
      obtain ⟨q13, g13, hf⟩ := ob hf
      refine r_getr C0 hH fl_X8_137 g13 dX8_gift_39 ?_
      refine lv_iload_n hx hb dX8_gift_42 rfl (lv_at hl 3 rfl) ?_
      obtain ⟨q14, g14, hf⟩ := ob hf
      refine r_aald (C := "SeasonBound$Season") C0 hH g14 (by decide) rfl dX8_gift_43 ?_
      obtain ⟨g15, hf⟩ := gd hf
      refine r_geti C0 hH fl_X8_141 g15 rfl dX8_gift_44 ?_
      refine lv_bipush (v := (9 : Int32)) hx hb dX8_gift_47 (by decide) ?_
      refine lv_icmp_ge (tgt := 94) hx hb dX8_gift_49 (by decide) (fun c16 => ?_) (fun c16 => ?_)
      · replace hf := it hf c16
        refine lv_iinc (v := (v3 + (1 : Int32))) (lv' := [(3, .int (v3 + (1 : Int32))), (0, .ref (ad Γ.2.2.1 p0)), (1, .int v1), (2, .int v2)]) hx hb dX8_gift_94 hl (k := 3) rfl (congrArg (fun w => v3 + w) (by decide)) (by decide) rfl (fun ls hl => ?_)
        refine lv_goto (tgt := 30) hx hb dX8_gift_97 (by decide) ?_
        exact ih (v3 + (1 : Int32)) d hf _ _ _ hH (lv_sub hl [1, 2, 3, 0] rfl)
      · replace hf := ie hf c16
        refine lv_aload_n hx hb dX8_gift_52 rfl (lv_at hl 0 rfl) ?_
        obtain ⟨q17, g17, hf⟩ := ob hf
        refine r_getr C0 hH fl_X8_28 g17 dX8_gift_53 ?_
        refine lv_aload_n hx hb dX8_gift_56 rfl (lv_at hl 0 rfl) ?_
        refine r_getr C0 hH fl_X8_24 g12 dX8_gift_57 ?_
        obtain ⟨g18, hf⟩ := gd hf
        obtain ⟨z19, h19, hf⟩ := ob hf
        refine r_callVv (rest := []) C0 hH (c_X7_copy Γ l Λ d q17 q12 z19 h19) cv_X8_87 g18 (by decide) rfl hl.1 rfl (Nat.le_of_ble_eq_true rfl) dX8_gift_60 (by decide) (fun H locs hH => ?_)
        refine lv_aload_n hx hb dX8_gift_63 rfl (lv_at hl 0 rfl) ?_
        refine r_getr C0 hH fl_X8_28 g17 dX8_gift_64 ?_
        obtain ⟨q20, g20, hf⟩ := ob hf
        refine r_getr C0 hH fl_X8_137 g20 dX8_gift_67 ?_
        refine lv_iload_n hx hb dX8_gift_70 rfl (lv_at hl 3 rfl) ?_
        obtain ⟨q21, g21, hf⟩ := ob hf
        refine r_aald (C := "SeasonBound$Season") C0 hH g21 (by decide) rfl dX8_gift_71 ?_
        refine lv_dup hx hb dX8_gift_72 rfl ?_
        obtain ⟨g22, hf⟩ := gd hf
        refine r_geti C0 hH fl_X8_141 g22 rfl dX8_gift_73 ?_
        refine lv_iconst (v := (1 : Int32)) hx hb dX8_gift_76 (by decide) ?_
        refine lv_iadd hx hb dX8_gift_77 ?_
        refine r_puti C0 hH fw_X8_141 g22 rfl dX8_gift_78 (fun H locs hH => ?_)
        refine lv_aload_n hx hb dX8_gift_81 rfl (lv_at hl 0 rfl) ?_
        obtain ⟨q23, g23, hf⟩ := ob hf
        refine r_getr C0 hH fl_X8_48 g23 dX8_gift_82 ?_
        refine lv_iload_n hx hb dX8_gift_85 rfl (lv_at hl 3 rfl) ?_
        refine lv_aload_n hx hb dX8_gift_86 rfl (lv_at hl 0 rfl) ?_
        refine lv_iload_n hx hb dX8_gift_87 rfl (lv_at hl 1 rfl) ?_
        obtain ⟨g24, hf⟩ := gd hf
        obtain ⟨z25, h25, hf⟩ := ob hf
        refine r_callVi (rest := [.int v3, .ref (ad Γ.2.2.1 q23)]) C0 hH (c_X8_skillsOfTrial Γ l Λ (pI z19 q21 1 ((z19.1 q21 1) + (1 : Int32))) p0 v1 z25 h25) cv_X8_207 g24 (by decide) rfl hl.1 rfl (Nat.le_of_ble_eq_true rfl) dX8_gift_88 (by decide) (fun H locs hH => ?_)
        obtain ⟨g26, hf⟩ := gd hf
        obtain ⟨z27, h27, hf⟩ := ob hf
        refine r_callVv (rest := []) C0 hH (c_X0_offer Γ l Λ z25.2 q23 v3 z25.1 z27 h27) cv_X8_194 g26 (by decide) rfl hl.1 rfl (Nat.le_of_ble_eq_true rfl) dX8_gift_91 (by decide) (fun H locs hH => ?_)
        refine lv_iinc (v := (v3 + (1 : Int32))) (lv' := [(3, .int (v3 + (1 : Int32))), (0, .ref (ad Γ.2.2.1 p0)), (1, .int v1), (2, .int v2)]) hx hb dX8_gift_94 hl (k := 3) rfl (congrArg (fun w => v3 + w) (by decide)) (by decide) rfl (fun ls hl => ?_)
        refine lv_goto (tgt := 30) hx hb dX8_gift_97 (by decide) ?_
        exact ih (v3 + (1 : Int32)) z27 hf _ _ _ hH (lv_sub hl [1, 2, 3, 0] rfl)
set_option maxHeartbeats 4000000 in
set_option maxRecDepth 100000 in
theorem c_X8_gift (Γ : Cx) (l : Launch) (Λ : List Ly) (d : Dt) (p0 : Nat) (v1 : Int32) (v2 : Int32) (z : Int32 × Dt) (hf : f_X8_gift Λ d p0 v1 v2 = some z) : Cn Γ l yX8_gift cX8_gift 4 (some FieldType.int) 7 149 [.ref (ad Γ.2.2.1 p0), .int v1, .int v2] Λ d (some (.int z.1)) z.2 := by
  refine Cn.of (own := "SeasonBound") (by decide +kernel) rfl (Nat.le_of_ble_eq_true rfl) ?_
  intro p e s m below meth c C0 hr hlocks hH ls hl
  have hl : lv_has ls 4 [(0, .ref (ad Γ.2.2.1 p0)), (1, .int v1), (2, .int v2)] := hl
  obtain ⟨hx, hb, hml, hown, hts, hK⟩ := id C0
  unfold f_X8_gift at hf
  refine lv_iload_n hx hb dX8_gift_0 rfl (lv_at hl 1 rfl) ?_
  refine r_callSi (rest := []) C0 hH (c_X8_isRun Γ l Λ d v1) cs_X8_176 (by decide) rfl hl.1 rfl (Nat.le_of_ble_eq_true rfl) dX8_gift_1 (by decide) (fun H locs hH => ?_)
  refine lv_if_eq (tgt := 14) hx hb dX8_gift_4 (by decide) (fun c1 => ?_) (fun c1 => ?_)
  · replace hf := it hf c1
    refine lv_iconst (v := (-1 : Int32)) hx hb dX8_gift_14 (by decide) ?_
    obtain rfl := Option.some.inj hf
    exact r_iret (d' := d) C0 hr hlocks hH rfl dX8_gift_15
  · replace hf := ie hf c1
    refine lv_iload_n hx hb dX8_gift_7 rfl (lv_at hl 2 rfl) ?_
    refine r_callSi (rest := []) C0 hH (c_X8_isWhichOrHowMuch Γ l Λ d v2) cs_X8_188 (by decide) rfl hl.1 rfl (Nat.le_of_ble_eq_true rfl) dX8_gift_8 (by decide) (fun H locs hH => ?_)
    refine lv_if_ne (tgt := 16) hx hb dX8_gift_11 (by decide) (fun c2 => ?_) (fun c2 => ?_)
    · replace hf := ie hf c2
      refine lv_aload_n hx hb dX8_gift_16 rfl (lv_at hl 0 rfl) ?_
      obtain ⟨q3, g3, hf⟩ := ob hf
      refine r_getr C0 hH fl_X8_48 g3 dX8_gift_17 ?_
      refine lv_aload_n hx hb dX8_gift_20 rfl (lv_at hl 0 rfl) ?_
      refine lv_iload_n hx hb dX8_gift_21 rfl (lv_at hl 1 rfl) ?_
      obtain ⟨g4, hf⟩ := gd hf
      obtain ⟨z5, h5, hf⟩ := ob hf
      refine r_callVi (rest := [.ref (ad Γ.2.2.1 q3)]) C0 hH (c_X8_skillsAsItIs Γ l Λ d p0 v1 z5 h5) cv_X8_201 g4 (by decide) rfl hl.1 rfl (Nat.le_of_ble_eq_true rfl) dX8_gift_22 (by decide) (fun H locs hH => ?_)
      obtain ⟨g6, hf⟩ := gd hf
      obtain ⟨z7, h7, hf⟩ := ob hf
      refine r_callVv (rest := []) C0 hH (c_X0_seekAbove Γ l Λ z5.2 q3 z5.1 z7 h7) cv_X8_191 g6 (by decide) rfl hl.1 rfl (Nat.le_of_ble_eq_true rfl) dX8_gift_25 (by decide) (fun H locs hH => ?_)
      refine lv_iconst (v := (0 : Int32)) hx hb dX8_gift_28 (by decide) ?_
      refine lv_istore_n (lv' := [(3, .int (0 : Int32)), (0, .ref (ad Γ.2.2.1 p0)), (1, .int v1), (2, .int v2)]) hx hb dX8_gift_29 rfl hl (by decide) rfl (fun ls hl => ?_)
      refine w_X8_gift_L30 C0 hr hlocks p0 v1 v2 FU (0 : Int32) z7 hf _ _ _ hH (lv_sub hl [1, 2, 3, 0] rfl)
    · replace hf := it hf c2
      refine lv_iconst (v := (-1 : Int32)) hx hb dX8_gift_14 (by decide) ?_
      obtain rfl := Option.some.inj hf
      exact r_iret (d' := d) C0 hr hlocks hH rfl dX8_gift_15
theorem dX8_term_0 : decode cX8_term 0 = .ok (.aload_n 0, 1) := by decide +kernel
theorem dX8_term_1 : decode cX8_term 1 = .ok (.getfield 24, 3) := by decide +kernel
theorem dX8_term_4 : decode cX8_term 4 = .ok (.iload_n 1, 1) := by decide +kernel
theorem dX8_term_5 : decode cX8_term 5 = .ok (.invokevirtual 108, 3) := by decide +kernel
theorem dX8_term_8 : decode cX8_term 8 = .ok (.ifCond .eq 20, 3) := by decide +kernel
theorem dX8_term_11 : decode cX8_term 11 = .ok (.iload_n 2, 1) := by decide +kernel
theorem dX8_term_12 : decode cX8_term 12 = .ok (.invokestatic 176, 3) := by decide +kernel
theorem dX8_term_15 : decode cX8_term 15 = .ok (.ifCond .eq 13, 3) := by decide +kernel
theorem dX8_term_18 : decode cX8_term 18 = .ok (.iload_n 3, 1) := by decide +kernel
theorem dX8_term_19 : decode cX8_term 19 = .ok (.iconst 0, 1) := by decide +kernel
theorem dX8_term_20 : decode cX8_term 20 = .ok (.bipush 99, 2) := by decide +kernel
theorem dX8_term_22 : decode cX8_term 22 = .ok (.invokestatic 60, 3) := by decide +kernel
theorem dX8_term_25 : decode cX8_term 25 = .ok (.ifCond .ne 5, 3) := by decide +kernel
theorem dX8_term_28 : decode cX8_term 28 = .ok (.iconst (-1), 1) := by decide +kernel
theorem dX8_term_29 : decode cX8_term 29 = .ok (.ireturn, 1) := by decide +kernel
theorem dX8_term_30 : decode cX8_term 30 = .ok (.aload_n 0, 1) := by decide +kernel
theorem dX8_term_31 : decode cX8_term 31 = .ok (.getfield 24, 3) := by decide +kernel
theorem dX8_term_34 : decode cX8_term 34 = .ok (.getfield 112, 3) := by decide +kernel
theorem dX8_term_37 : decode cX8_term 37 = .ok (.iload_n 1, 1) := by decide +kernel
theorem dX8_term_38 : decode cX8_term 38 = .ok (.aaload, 1) := by decide +kernel
theorem dX8_term_39 : decode cX8_term 39 = .ok (.invokevirtual 121, 3) := by decide +kernel
theorem dX8_term_42 : decode cX8_term 42 = .ok (.ifCond .eq 6, 3) := by decide +kernel
theorem dX8_term_45 : decode cX8_term 45 = .ok (.bipush (-2), 2) := by decide +kernel
theorem dX8_term_47 : decode cX8_term 47 = .ok (.ireturn, 1) := by decide +kernel
theorem dX8_term_48 : decode cX8_term 48 = .ok (.aload_n 0, 1) := by decide +kernel
theorem dX8_term_49 : decode cX8_term 49 = .ok (.getfield 28, 3) := by decide +kernel
theorem dX8_term_52 : decode cX8_term 52 = .ok (.aload_n 0, 1) := by decide +kernel
theorem dX8_term_53 : decode cX8_term 53 = .ok (.getfield 24, 3) := by decide +kernel
theorem dX8_term_56 : decode cX8_term 56 = .ok (.invokevirtual 87, 3) := by decide +kernel
theorem dX8_term_59 : decode cX8_term 59 = .ok (.aload_n 0, 1) := by decide +kernel
theorem dX8_term_60 : decode cX8_term 60 = .ok (.getfield 28, 3) := by decide +kernel
theorem dX8_term_63 : decode cX8_term 63 = .ok (.getfield 112, 3) := by decide +kernel
theorem dX8_term_66 : decode cX8_term 66 = .ok (.iload_n 1, 1) := by decide +kernel
theorem dX8_term_67 : decode cX8_term 67 = .ok (.aaload, 1) := by decide +kernel
theorem dX8_term_68 : decode cX8_term 68 = .ok (.astore 4, 2) := by decide +kernel
theorem dX8_term_70 : decode cX8_term 70 = .ok (.aload 4, 2) := by decide +kernel
theorem dX8_term_72 : decode cX8_term 72 = .ok (.bipush 99, 2) := by decide +kernel
theorem dX8_term_74 : decode cX8_term 74 = .ok (.putfield 128, 3) := by decide +kernel
theorem dX8_term_77 : decode cX8_term 77 = .ok (.iconst 0, 1) := by decide +kernel
theorem dX8_term_78 : decode cX8_term 78 = .ok (.istore 5, 2) := by decide +kernel
theorem dX8_term_80 : decode cX8_term 80 = .ok (.iload 5, 2) := by decide +kernel
theorem dX8_term_82 : decode cX8_term 82 = .ok (.iload_n 2, 1) := by decide +kernel
theorem dX8_term_83 : decode cX8_term 83 = .ok (.if_icmp .ge 25, 3) := by decide +kernel
theorem dX8_term_86 : decode cX8_term 86 = .ok (.aload 4, 2) := by decide +kernel
theorem dX8_term_88 : decode cX8_term 88 = .ok (.getfield 131, 3) := by decide +kernel
theorem dX8_term_91 : decode cX8_term 91 = .ok (.iload_n 3, 1) := by decide +kernel
theorem dX8_term_92 : decode cX8_term 92 = .ok (.if_icmp .ge 16, 3) := by decide +kernel
theorem dX8_term_95 : decode cX8_term 95 = .ok (.aload_n 0, 1) := by decide +kernel
theorem dX8_term_96 : decode cX8_term 96 = .ok (.getfield 28, 3) := by decide +kernel
theorem dX8_term_99 : decode cX8_term 99 = .ok (.invokevirtual 179, 3) := by decide +kernel
theorem dX8_term_102 : decode cX8_term 102 = .ok (.iinc 5 1, 3) := by decide +kernel
theorem dX8_term_105 : decode cX8_term 105 = .ok (.goto (-25), 3) := by decide +kernel
theorem dX8_term_108 : decode cX8_term 108 = .ok (.aload 4, 2) := by decide +kernel
theorem dX8_term_110 : decode cX8_term 110 = .ok (.getfield 131, 3) := by decide +kernel
theorem dX8_term_113 : decode cX8_term 113 = .ok (.iload_n 3, 1) := by decide +kernel
theorem dX8_term_114 : decode cX8_term 114 = .ok (.if_icmp .ge 8, 3) := by decide +kernel
theorem dX8_term_117 : decode cX8_term 117 = .ok (.bipush (-4), 2) := by decide +kernel
theorem dX8_term_119 : decode cX8_term 119 = .ok (.goto 15, 3) := by decide +kernel
theorem dX8_term_122 : decode cX8_term 122 = .ok (.iconst 1, 1) := by decide +kernel
theorem dX8_term_123 : decode cX8_term 123 = .ok (.bipush 99, 2) := by decide +kernel
theorem dX8_term_125 : decode cX8_term 125 = .ok (.aload 4, 2) := by decide +kernel
theorem dX8_term_127 : decode cX8_term 127 = .ok (.getfield 128, 3) := by decide +kernel
theorem dX8_term_130 : decode cX8_term 130 = .ok (.isub, 1) := by decide +kernel
theorem dX8_term_131 : decode cX8_term 131 = .ok (.invokestatic 210, 3) := by decide +kernel
theorem dX8_term_134 : decode cX8_term 134 = .ok (.ireturn, 1) := by decide +kernel
def f_X8_term_L80 (Λ : List Ly) (p0 : Nat) (v2 : Int32) (v3 : Int32) (p4 : Nat) : Nat → Int32 → Dt → Option (Int32 × Dt)
  | 0, _, _ => none
  | n + 1, v5, d => if v2 ≤ v5 then (if clsAt Λ p4 = some 1 then (if v3 ≤ (d.1 p4 3) then (some ((jmax (1 : Int32) ((99 : Int32) - (d.1 p4 2))), d)) else (some ((-4 : Int32), d))) else none) else (if clsAt Λ p4 = some 1 then (if v3 ≤ (d.1 p4 3) then (if v3 ≤ (d.1 p4 3) then (some ((jmax (1 : Int32) ((99 : Int32) - (d.1 p4 2))), d)) else (some ((-4 : Int32), d))) else (Option.bind (rf Λ p0 8 3) fun q24 => if clsAt Λ q24 = some 7 then (Option.bind (f_X7_passOne Λ d q24) fun z26 => f_X8_term_L80 Λ p0 v2 v3 p4 n (v5 + (1 : Int32)) z26) else none)) else none)
def f_X8_term (Λ : List Ly) (d : Dt) (p0 : Nat) (v1 : Int32) (v2 : Int32) (v3 : Int32) : Option (Int32 × Dt) := Option.bind (rf Λ p0 8 2) fun q1 => if clsAt Λ q1 = some 7 then (Option.bind (f_X7_has Λ d q1 v1) fun z3 => if z3 = 0 then (some ((-1 : Int32), d)) else (if (f_X8_isRun v2) = 0 then (some ((-1 : Int32), d)) else (if (f_X8_within v3 (0 : Int32) (99 : Int32)) = 0 then (some ((-1 : Int32), d)) else (Option.bind (rf Λ q1 7 1) fun q7 => Option.bind (ra Λ q7 4 v1) fun q8 => if clsAt Λ q8 = some 1 then (Option.bind (f_X1_isFree Λ d q8) fun z10 => if z10 = 0 then (Option.bind (rf Λ p0 8 3) fun q12 => if clsAt Λ q12 = some 7 then (Option.bind (f_X7_copy Λ d q12 q1) fun z14 => Option.bind (rf Λ q12 7 1) fun q15 => Option.bind (ra Λ q15 4 v1) fun q16 => if clsAt Λ q16 = some 1 then (f_X8_term_L80 Λ p0 v2 v3 q16 FU (0 : Int32) (pI z14 q16 2 (99 : Int32))) else none) else none) else (some ((-2 : Int32), d))) else none)))) else none
set_option maxHeartbeats 4000000 in
set_option maxRecDepth 100000 in
theorem w_X8_term_L80 {p : Program} {l : Launch} {e : Env} {s : State} {m : MethodId} {args : Array Value} {below : List Frame} {meth : Method} {c : Code} {Γ : Cx} {Λ : List Ly} {z : Int32 × Dt} (C0 : Ct Γ p s m args c cX8_term 6 "SeasonBound") (hr : meth.sig.returnType = (some FieldType.int)) (hlocks : meth.locks = false) (p0 : Nat) (v2 : Int32) (v3 : Int32) (p4 : Nat) :
    ∀ (n : Nat) (v5 : Int32) (d : Dt), f_X8_term_L80 Λ p0 v2 v3 p4 n v5 d = some z → ∀ (H : Heap) (locs : List Loc) (ls : Array Slot), Hs Γ Λ d s H locs → lv_has ls 6 [(0, .ref (ad Γ.2.2.1 p0)), (2, .int v2), (3, .int v3), (4, .ref (ad Γ.2.2.1 p4)), (5, .int v5)] → W p l e { frames := 4, cells := 0, slots := 0, locals := 85 } s m args below meth c H locs 0 0 (MQ below (QN Γ Λ z.2 (some (.int z.1))) args s 0 0 (AP Γ)) (F0 m 80 ls []) := by
  obtain ⟨hx, hb, hml, hown, hts, hK⟩ := id C0
  intro n
  induction n with
  | zero =>
    intro v5 d hf
    cases hf
  | succ n ih =>
    intro v5 d hf H locs ls hH hl
    unfold f_X8_term_L80 at hf
    refine lv_iload hx hb dX8_term_80 (lv_at hl 4 rfl) ?_
    refine lv_iload_n hx hb dX8_term_82 rfl (lv_at hl 1 rfl) ?_
    refine lv_icmp_ge (tgt := 108) hx hb dX8_term_83 (by decide) (fun c18 => ?_) (fun c18 => ?_)
    · replace hf := it hf c18
      refine lv_aload hx hb dX8_term_108 (lv_at hl 3 rfl) ?_
      obtain ⟨g19, hf⟩ := gd hf
      refine r_geti C0 hH fl_X8_131 g19 rfl dX8_term_110 ?_
      refine lv_iload_n hx hb dX8_term_113 rfl (lv_at hl 2 rfl) ?_
      refine lv_icmp_ge (tgt := 122) hx hb dX8_term_114 (by decide) (fun c20 => ?_) (fun c20 => ?_)
      · replace hf := it hf c20
        refine lv_iconst (v := (1 : Int32)) hx hb dX8_term_122 (by decide) ?_
        refine lv_bipush (v := (99 : Int32)) hx hb dX8_term_123 (by decide) ?_
        refine lv_aload hx hb dX8_term_125 (lv_at hl 3 rfl) ?_
        refine r_geti C0 hH fl_X8_128 g19 rfl dX8_term_127 ?_
        refine lv_isub hx hb dX8_term_130 ?_
        refine r_jmax C0 hl.1 ml_X8_210 (by decide) (Nat.le_of_ble_eq_true rfl) (by decide) dX8_term_131 ?_
        obtain rfl := Option.some.inj hf
        exact r_iret (d' := d) C0 hr hlocks hH rfl dX8_term_134
      · replace hf := ie hf c20
        refine lv_bipush (v := (-4 : Int32)) hx hb dX8_term_117 (by decide) ?_
        refine lv_goto (tgt := 134) hx hb dX8_term_119 (by decide) ?_
        obtain rfl := Option.some.inj hf
        exact r_iret (d' := d) C0 hr hlocks hH rfl dX8_term_134
    · replace hf := ie hf c18
      refine lv_aload hx hb dX8_term_86 (lv_at hl 3 rfl) ?_
      obtain ⟨g21, hf⟩ := gd hf
      refine r_geti C0 hH fl_X8_131 g21 rfl dX8_term_88 ?_
      refine lv_iload_n hx hb dX8_term_91 rfl (lv_at hl 2 rfl) ?_
      refine lv_icmp_ge (tgt := 108) hx hb dX8_term_92 (by decide) (fun c22 => ?_) (fun c22 => ?_)
      · replace hf := it hf c22
        refine lv_aload hx hb dX8_term_108 (lv_at hl 3 rfl) ?_
        refine r_geti C0 hH fl_X8_131 g21 rfl dX8_term_110 ?_
        refine lv_iload_n hx hb dX8_term_113 rfl (lv_at hl 2 rfl) ?_
        refine lv_icmp_ge (tgt := 122) hx hb dX8_term_114 (by decide) (fun c23 => ?_) (fun c23 => ?_)
        · replace hf := it hf c23
          refine lv_iconst (v := (1 : Int32)) hx hb dX8_term_122 (by decide) ?_
          refine lv_bipush (v := (99 : Int32)) hx hb dX8_term_123 (by decide) ?_
          refine lv_aload hx hb dX8_term_125 (lv_at hl 3 rfl) ?_
          refine r_geti C0 hH fl_X8_128 g21 rfl dX8_term_127 ?_
          refine lv_isub hx hb dX8_term_130 ?_
          refine r_jmax C0 hl.1 ml_X8_210 (by decide) (Nat.le_of_ble_eq_true rfl) (by decide) dX8_term_131 ?_
          obtain rfl := Option.some.inj hf
          exact r_iret (d' := d) C0 hr hlocks hH rfl dX8_term_134
        · replace hf := ie hf c23
          refine lv_bipush (v := (-4 : Int32)) hx hb dX8_term_117 (by decide) ?_
          refine lv_goto (tgt := 134) hx hb dX8_term_119 (by decide) ?_
          obtain rfl := Option.some.inj hf
          exact r_iret (d' := d) C0 hr hlocks hH rfl dX8_term_134
      · replace hf := ie hf c22
        refine lv_aload_n hx hb dX8_term_95 rfl (lv_at hl 0 rfl) ?_
        obtain ⟨q24, g24, hf⟩ := ob hf
        refine r_getr C0 hH fl_X8_28 g24 dX8_term_96 ?_
        obtain ⟨g25, hf⟩ := gd hf
        obtain ⟨z26, h26, hf⟩ := ob hf
        refine r_callVv (rest := []) C0 hH (c_X7_passOne Γ l Λ d q24 z26 h26) cv_X8_179 g25 (by decide) rfl hl.1 rfl (Nat.le_of_ble_eq_true rfl) dX8_term_99 (by decide) (fun H locs hH => ?_)
        refine lv_iinc (v := (v5 + (1 : Int32))) (lv' := [(5, .int (v5 + (1 : Int32))), (0, .ref (ad Γ.2.2.1 p0)), (2, .int v2), (3, .int v3), (4, .ref (ad Γ.2.2.1 p4))]) hx hb dX8_term_102 hl (k := 4) rfl (congrArg (fun w => v5 + w) (by decide)) (by decide) rfl (fun ls hl => ?_)
        refine lv_goto (tgt := 80) hx hb dX8_term_105 (by decide) ?_
        exact ih (v5 + (1 : Int32)) z26 hf _ _ _ hH (lv_sub hl [1, 2, 3, 4, 0] rfl)
set_option maxHeartbeats 4000000 in
set_option maxRecDepth 100000 in
theorem c_X8_term (Γ : Cx) (l : Launch) (Λ : List Ly) (d : Dt) (p0 : Nat) (v1 : Int32) (v2 : Int32) (v3 : Int32) (z : Int32 × Dt) (hf : f_X8_term Λ d p0 v1 v2 v3 = some z) : Cn Γ l yX8_term cX8_term 6 (some FieldType.int) 4 85 [.ref (ad Γ.2.2.1 p0), .int v1, .int v2, .int v3] Λ d (some (.int z.1)) z.2 := by
  refine Cn.of (own := "SeasonBound") (by decide +kernel) rfl (Nat.le_of_ble_eq_true rfl) ?_
  intro p e s m below meth c C0 hr hlocks hH ls hl
  have hl : lv_has ls 6 [(0, .ref (ad Γ.2.2.1 p0)), (1, .int v1), (2, .int v2), (3, .int v3)] := hl
  obtain ⟨hx, hb, hml, hown, hts, hK⟩ := id C0
  unfold f_X8_term at hf
  refine lv_aload_n hx hb dX8_term_0 rfl (lv_at hl 0 rfl) ?_
  obtain ⟨q1, g1, hf⟩ := ob hf
  refine r_getr C0 hH fl_X8_24 g1 dX8_term_1 ?_
  refine lv_iload_n hx hb dX8_term_4 rfl (lv_at hl 1 rfl) ?_
  obtain ⟨g2, hf⟩ := gd hf
  obtain ⟨z3, h3, hf⟩ := ob hf
  refine r_callVi (rest := []) C0 hH (c_X7_has Γ l Λ d q1 v1 z3 h3) cv_X8_108 g2 (by decide) rfl hl.1 rfl (Nat.le_of_ble_eq_true rfl) dX8_term_5 (by decide) (fun H locs hH => ?_)
  refine lv_if_eq (tgt := 28) hx hb dX8_term_8 (by decide) (fun c4 => ?_) (fun c4 => ?_)
  · replace hf := it hf c4
    refine lv_iconst (v := (-1 : Int32)) hx hb dX8_term_28 (by decide) ?_
    obtain rfl := Option.some.inj hf
    exact r_iret (d' := d) C0 hr hlocks hH rfl dX8_term_29
  · replace hf := ie hf c4
    refine lv_iload_n hx hb dX8_term_11 rfl (lv_at hl 2 rfl) ?_
    refine r_callSi (rest := []) C0 hH (c_X8_isRun Γ l Λ d v2) cs_X8_176 (by decide) rfl hl.1 rfl (Nat.le_of_ble_eq_true rfl) dX8_term_12 (by decide) (fun H locs hH => ?_)
    refine lv_if_eq (tgt := 28) hx hb dX8_term_15 (by decide) (fun c5 => ?_) (fun c5 => ?_)
    · replace hf := it hf c5
      refine lv_iconst (v := (-1 : Int32)) hx hb dX8_term_28 (by decide) ?_
      obtain rfl := Option.some.inj hf
      exact r_iret (d' := d) C0 hr hlocks hH rfl dX8_term_29
    · replace hf := ie hf c5
      refine lv_iload_n hx hb dX8_term_18 rfl (lv_at hl 3 rfl) ?_
      refine lv_iconst (v := (0 : Int32)) hx hb dX8_term_19 (by decide) ?_
      refine lv_bipush (v := (99 : Int32)) hx hb dX8_term_20 (by decide) ?_
      refine r_callSi (rest := []) C0 hH (c_X8_within Γ l Λ d v3 (0 : Int32) (99 : Int32)) cs_X8_60 (by decide) rfl hl.1 rfl (Nat.le_of_ble_eq_true rfl) dX8_term_22 (by decide) (fun H locs hH => ?_)
      refine lv_if_ne (tgt := 30) hx hb dX8_term_25 (by decide) (fun c6 => ?_) (fun c6 => ?_)
      · replace hf := ie hf c6
        refine lv_aload_n hx hb dX8_term_30 rfl (lv_at hl 0 rfl) ?_
        refine r_getr C0 hH fl_X8_24 g1 dX8_term_31 ?_
        obtain ⟨q7, g7, hf⟩ := ob hf
        refine r_getr C0 hH fl_X8_112 g7 dX8_term_34 ?_
        refine lv_iload_n hx hb dX8_term_37 rfl (lv_at hl 1 rfl) ?_
        obtain ⟨q8, g8, hf⟩ := ob hf
        refine r_aald (C := "SeasonBound$Child") C0 hH g8 (by decide) rfl dX8_term_38 ?_
        obtain ⟨g9, hf⟩ := gd hf
        obtain ⟨z10, h10, hf⟩ := ob hf
        refine r_callVi (rest := []) C0 hH (c_X1_isFree Γ l Λ d q8 z10 h10) cv_X8_121 g9 (by decide) rfl hl.1 rfl (Nat.le_of_ble_eq_true rfl) dX8_term_39 (by decide) (fun H locs hH => ?_)
        refine lv_if_eq (tgt := 48) hx hb dX8_term_42 (by decide) (fun c11 => ?_) (fun c11 => ?_)
        · replace hf := it hf c11
          refine lv_aload_n hx hb dX8_term_48 rfl (lv_at hl 0 rfl) ?_
          obtain ⟨q12, g12, hf⟩ := ob hf
          refine r_getr C0 hH fl_X8_28 g12 dX8_term_49 ?_
          refine lv_aload_n hx hb dX8_term_52 rfl (lv_at hl 0 rfl) ?_
          refine r_getr C0 hH fl_X8_24 g1 dX8_term_53 ?_
          obtain ⟨g13, hf⟩ := gd hf
          obtain ⟨z14, h14, hf⟩ := ob hf
          refine r_callVv (rest := []) C0 hH (c_X7_copy Γ l Λ d q12 q1 z14 h14) cv_X8_87 g13 (by decide) rfl hl.1 rfl (Nat.le_of_ble_eq_true rfl) dX8_term_56 (by decide) (fun H locs hH => ?_)
          refine lv_aload_n hx hb dX8_term_59 rfl (lv_at hl 0 rfl) ?_
          refine r_getr C0 hH fl_X8_28 g12 dX8_term_60 ?_
          obtain ⟨q15, g15, hf⟩ := ob hf
          refine r_getr C0 hH fl_X8_112 g15 dX8_term_63 ?_
          refine lv_iload_n hx hb dX8_term_66 rfl (lv_at hl 1 rfl) ?_
          obtain ⟨q16, g16, hf⟩ := ob hf
          refine r_aald (C := "SeasonBound$Child") C0 hH g16 (by decide) rfl dX8_term_67 ?_
          refine lv_astore (lv' := [(4, .ref (ad Γ.2.2.1 q16)), (0, .ref (ad Γ.2.2.1 p0)), (1, .int v1), (2, .int v2), (3, .int v3)]) hx hb dX8_term_68 hl (by decide) rfl (fun ls hl => ?_)
          refine lv_aload hx hb dX8_term_70 (lv_at hl 0 rfl) ?_
          refine lv_bipush (v := (99 : Int32)) hx hb dX8_term_72 (by decide) ?_
          obtain ⟨g17, hf⟩ := gd hf
          refine r_puti C0 hH fw_X8_128 g17 rfl dX8_term_74 (fun H locs hH => ?_)
          refine lv_iconst (v := (0 : Int32)) hx hb dX8_term_77 (by decide) ?_
          refine lv_istore (lv' := [(5, .int (0 : Int32)), (4, .ref (ad Γ.2.2.1 q16)), (0, .ref (ad Γ.2.2.1 p0)), (1, .int v1), (2, .int v2), (3, .int v3)]) hx hb dX8_term_78 hl (by decide) rfl (fun ls hl => ?_)
          refine w_X8_term_L80 C0 hr hlocks p0 v2 v3 q16 FU (0 : Int32) (pI z14 q16 2 (99 : Int32)) hf _ _ _ hH (lv_sub hl [2, 4, 5, 1, 0] rfl)
        · replace hf := ie hf c11
          refine lv_bipush (v := (-2 : Int32)) hx hb dX8_term_45 (by decide) ?_
          obtain rfl := Option.some.inj hf
          exact r_iret (d' := d) C0 hr hlocks hH rfl dX8_term_47
      · replace hf := it hf c6
        refine lv_iconst (v := (-1 : Int32)) hx hb dX8_term_28 (by decide) ?_
        obtain rfl := Option.some.inj hf
        exact r_iret (d' := d) C0 hr hlocks hH rfl dX8_term_29
theorem dX8_kind_0 : decode cX8_kind 0 = .ok (.aload_n 0, 1) := by decide +kernel
theorem dX8_kind_1 : decode cX8_kind 1 = .ok (.getfield 24, 3) := by decide +kernel
theorem dX8_kind_4 : decode cX8_kind 4 = .ok (.iload_n 1, 1) := by decide +kernel
theorem dX8_kind_5 : decode cX8_kind 5 = .ok (.invokevirtual 108, 3) := by decide +kernel
theorem dX8_kind_8 : decode cX8_kind 8 = .ok (.ifCond .eq 17, 3) := by decide +kernel
theorem dX8_kind_11 : decode cX8_kind 11 = .ok (.iload_n 2, 1) := by decide +kernel
theorem dX8_kind_12 : decode cX8_kind 12 = .ok (.invokestatic 176, 3) := by decide +kernel
theorem dX8_kind_15 : decode cX8_kind 15 = .ok (.ifCond .eq 10, 3) := by decide +kernel
theorem dX8_kind_18 : decode cX8_kind 18 = .ok (.iload_n 3, 1) := by decide +kernel
theorem dX8_kind_19 : decode cX8_kind 19 = .ok (.invokestatic 188, 3) := by decide +kernel
theorem dX8_kind_22 : decode cX8_kind 22 = .ok (.ifCond .ne 5, 3) := by decide +kernel
theorem dX8_kind_25 : decode cX8_kind 25 = .ok (.iconst (-1), 1) := by decide +kernel
theorem dX8_kind_26 : decode cX8_kind 26 = .ok (.ireturn, 1) := by decide +kernel
theorem dX8_kind_27 : decode cX8_kind 27 = .ok (.aload_n 0, 1) := by decide +kernel
theorem dX8_kind_28 : decode cX8_kind 28 = .ok (.getfield 48, 3) := by decide +kernel
theorem dX8_kind_31 : decode cX8_kind 31 = .ok (.iconst (-1), 1) := by decide +kernel
theorem dX8_kind_32 : decode cX8_kind 32 = .ok (.invokevirtual 191, 3) := by decide +kernel
theorem dX8_kind_35 : decode cX8_kind 35 = .ok (.iconst 0, 1) := by decide +kernel
theorem dX8_kind_36 : decode cX8_kind 36 = .ok (.istore 4, 2) := by decide +kernel
theorem dX8_kind_38 : decode cX8_kind 38 = .ok (.iload 4, 2) := by decide +kernel
theorem dX8_kind_40 : decode cX8_kind 40 = .ok (.iconst 4, 1) := by decide +kernel
theorem dX8_kind_41 : decode cX8_kind 41 = .ok (.if_icmp .ge 48, 3) := by decide +kernel
theorem dX8_kind_44 : decode cX8_kind 44 = .ok (.aload_n 0, 1) := by decide +kernel
theorem dX8_kind_45 : decode cX8_kind 45 = .ok (.getfield 28, 3) := by decide +kernel
theorem dX8_kind_48 : decode cX8_kind 48 = .ok (.aload_n 0, 1) := by decide +kernel
theorem dX8_kind_49 : decode cX8_kind 49 = .ok (.getfield 24, 3) := by decide +kernel
theorem dX8_kind_52 : decode cX8_kind 52 = .ok (.invokevirtual 87, 3) := by decide +kernel
theorem dX8_kind_55 : decode cX8_kind 55 = .ok (.aload_n 0, 1) := by decide +kernel
theorem dX8_kind_56 : decode cX8_kind 56 = .ok (.getfield 28, 3) := by decide +kernel
theorem dX8_kind_59 : decode cX8_kind 59 = .ok (.getfield 112, 3) := by decide +kernel
theorem dX8_kind_62 : decode cX8_kind 62 = .ok (.iload_n 1, 1) := by decide +kernel
theorem dX8_kind_63 : decode cX8_kind 63 = .ok (.aaload, 1) := by decide +kernel
theorem dX8_kind_64 : decode cX8_kind 64 = .ok (.iload 4, 2) := by decide +kernel
theorem dX8_kind_66 : decode cX8_kind 66 = .ok (.putfield 116, 3) := by decide +kernel
theorem dX8_kind_69 : decode cX8_kind 69 = .ok (.aload_n 0, 1) := by decide +kernel
theorem dX8_kind_70 : decode cX8_kind 70 = .ok (.getfield 48, 3) := by decide +kernel
theorem dX8_kind_73 : decode cX8_kind 73 = .ok (.iload 4, 2) := by decide +kernel
theorem dX8_kind_75 : decode cX8_kind 75 = .ok (.aload_n 0, 1) := by decide +kernel
theorem dX8_kind_76 : decode cX8_kind 76 = .ok (.iload_n 2, 1) := by decide +kernel
theorem dX8_kind_77 : decode cX8_kind 77 = .ok (.invokevirtual 207, 3) := by decide +kernel
theorem dX8_kind_80 : decode cX8_kind 80 = .ok (.invokevirtual 194, 3) := by decide +kernel
theorem dX8_kind_83 : decode cX8_kind 83 = .ok (.iinc 4 1, 3) := by decide +kernel
theorem dX8_kind_86 : decode cX8_kind 86 = .ok (.goto (-48), 3) := by decide +kernel
theorem dX8_kind_89 : decode cX8_kind 89 = .ok (.aload_n 0, 1) := by decide +kernel
theorem dX8_kind_90 : decode cX8_kind 90 = .ok (.getfield 48, 3) := by decide +kernel
theorem dX8_kind_93 : decode cX8_kind 93 = .ok (.iload_n 3, 1) := by decide +kernel
theorem dX8_kind_94 : decode cX8_kind 94 = .ok (.invokevirtual 198, 3) := by decide +kernel
theorem dX8_kind_97 : decode cX8_kind 97 = .ok (.ireturn, 1) := by decide +kernel
def f_X8_kind_L38 (Λ : List Ly) (p0 : Nat) (v1 : Int32) (v2 : Int32) (v3 : Int32) : Nat → Int32 → Dt → Option (Int32 × Dt)
  | 0, _, _ => none
  | n + 1, v4, d => if (4 : Int32) ≤ v4 then (Option.bind (rf Λ p0 8 7) fun q11 => if clsAt Λ q11 = some 0 then (Option.bind (f_X0_told Λ d q11 v3) fun z13 => some (z13, d)) else none) else (Option.bind (rf Λ p0 8 3) fun q14 => Option.bind (rf Λ p0 8 2) fun q15 => if clsAt Λ q14 = some 7 then (Option.bind (f_X7_copy Λ d q14 q15) fun z17 => Option.bind (rf Λ q14 7 1) fun q18 => Option.bind (ra Λ q18 4 v1) fun q19 => if clsAt Λ q19 = some 1 then (Option.bind (rf Λ p0 8 7) fun q21 => if clsAt Λ p0 = some 8 then (Option.bind (f_X8_skillsOfTrial Λ (pI z17 q19 0 v4) p0 v2) fun z23 => if clsAt Λ q21 = some 0 then (Option.bind (f_X0_offer Λ z23.2 q21 v4 z23.1) fun z25 => f_X8_kind_L38 Λ p0 v1 v2 v3 n (v4 + (1 : Int32)) z25) else none) else none) else none) else none)
def f_X8_kind (Λ : List Ly) (d : Dt) (p0 : Nat) (v1 : Int32) (v2 : Int32) (v3 : Int32) : Option (Int32 × Dt) := Option.bind (rf Λ p0 8 2) fun q1 => if clsAt Λ q1 = some 7 then (Option.bind (f_X7_has Λ d q1 v1) fun z3 => if z3 = 0 then (some ((-1 : Int32), d)) else (if (f_X8_isRun v2) = 0 then (some ((-1 : Int32), d)) else (if (f_X8_isWhichOrHowMuch v3) = 0 then (some ((-1 : Int32), d)) else (Option.bind (rf Λ p0 8 7) fun q7 => if clsAt Λ q7 = some 0 then (Option.bind (f_X0_seekAbove Λ d q7 (-1 : Int32)) fun z9 => f_X8_kind_L38 Λ p0 v1 v2 v3 FU (0 : Int32) z9) else none)))) else none
set_option maxHeartbeats 4000000 in
set_option maxRecDepth 100000 in
theorem w_X8_kind_L38 {p : Program} {l : Launch} {e : Env} {s : State} {m : MethodId} {args : Array Value} {below : List Frame} {meth : Method} {c : Code} {Γ : Cx} {Λ : List Ly} {z : Int32 × Dt} (C0 : Ct Γ p s m args c cX8_kind 5 "SeasonBound") (hr : meth.sig.returnType = (some FieldType.int)) (hlocks : meth.locks = false) (p0 : Nat) (v1 : Int32) (v2 : Int32) (v3 : Int32) :
    ∀ (n : Nat) (v4 : Int32) (d : Dt), f_X8_kind_L38 Λ p0 v1 v2 v3 n v4 d = some z → ∀ (H : Heap) (locs : List Loc) (ls : Array Slot), Hs Γ Λ d s H locs → lv_has ls 5 [(0, .ref (ad Γ.2.2.1 p0)), (1, .int v1), (2, .int v2), (3, .int v3), (4, .int v4)] → W p l e { frames := 6, cells := 0, slots := 0, locals := 128 } s m args below meth c H locs 0 0 (MQ below (QN Γ Λ z.2 (some (.int z.1))) args s 0 0 (AP Γ)) (F0 m 38 ls []) := by
  obtain ⟨hx, hb, hml, hown, hts, hK⟩ := id C0
  intro n
  induction n with
  | zero =>
    intro v4 d hf
    cases hf
  | succ n ih =>
    intro v4 d hf H locs ls hH hl
    unfold f_X8_kind_L38 at hf
    refine lv_iload hx hb dX8_kind_38 (lv_at hl 4 rfl) ?_
    refine lv_iconst (v := (4 : Int32)) hx hb dX8_kind_40 (by decide) ?_
    refine lv_icmp_ge (tgt := 89) hx hb dX8_kind_41 (by decide) (fun c10 => ?_) (fun c10 => ?_)
    · replace hf := it hf c10
      refine lv_aload_n hx hb dX8_kind_89 rfl (lv_at hl 0 rfl) ?_
      obtain ⟨q11, g11, hf⟩ := ob hf
      refine r_getr C0 hH fl_X8_48 g11 dX8_kind_90 ?_
      refine lv_iload_n hx hb dX8_kind_93 rfl (lv_at hl 3 rfl) ?_
      obtain ⟨g12, hf⟩ := gd hf
      obtain ⟨z13, h13, hf⟩ := ob hf
      refine r_callVi (rest := []) C0 hH (c_X0_told Γ l Λ d q11 v3 z13 h13) cv_X8_198 g12 (by decide) rfl hl.1 rfl (Nat.le_of_ble_eq_true rfl) dX8_kind_94 (by decide) (fun H locs hH => ?_)
      obtain rfl := Option.some.inj hf
      exact r_iret (d' := d) C0 hr hlocks hH rfl dX8_kind_97
    · replace hf := ie hf c10
      refine lv_aload_n hx hb dX8_kind_44 rfl (lv_at hl 0 rfl) ?_
      obtain ⟨q14, g14, hf⟩ := ob hf
      refine r_getr C0 hH fl_X8_28 g14 dX8_kind_45 ?_
      refine lv_aload_n hx hb dX8_kind_48 rfl (lv_at hl 0 rfl) ?_
      obtain ⟨q15, g15, hf⟩ := ob hf
      refine r_getr C0 hH fl_X8_24 g15 dX8_kind_49 ?_
      obtain ⟨g16, hf⟩ := gd hf
      obtain ⟨z17, h17, hf⟩ := ob hf
      refine r_callVv (rest := []) C0 hH (c_X7_copy Γ l Λ d q14 q15 z17 h17) cv_X8_87 g16 (by decide) rfl hl.1 rfl (Nat.le_of_ble_eq_true rfl) dX8_kind_52 (by decide) (fun H locs hH => ?_)
      refine lv_aload_n hx hb dX8_kind_55 rfl (lv_at hl 0 rfl) ?_
      refine r_getr C0 hH fl_X8_28 g14 dX8_kind_56 ?_
      obtain ⟨q18, g18, hf⟩ := ob hf
      refine r_getr C0 hH fl_X8_112 g18 dX8_kind_59 ?_
      refine lv_iload_n hx hb dX8_kind_62 rfl (lv_at hl 1 rfl) ?_
      obtain ⟨q19, g19, hf⟩ := ob hf
      refine r_aald (C := "SeasonBound$Child") C0 hH g19 (by decide) rfl dX8_kind_63 ?_
      refine lv_iload hx hb dX8_kind_64 (lv_at hl 4 rfl) ?_
      obtain ⟨g20, hf⟩ := gd hf
      refine r_puti C0 hH fw_X8_116 g20 rfl dX8_kind_66 (fun H locs hH => ?_)
      refine lv_aload_n hx hb dX8_kind_69 rfl (lv_at hl 0 rfl) ?_
      obtain ⟨q21, g21, hf⟩ := ob hf
      refine r_getr C0 hH fl_X8_48 g21 dX8_kind_70 ?_
      refine lv_iload hx hb dX8_kind_73 (lv_at hl 4 rfl) ?_
      refine lv_aload_n hx hb dX8_kind_75 rfl (lv_at hl 0 rfl) ?_
      refine lv_iload_n hx hb dX8_kind_76 rfl (lv_at hl 2 rfl) ?_
      obtain ⟨g22, hf⟩ := gd hf
      obtain ⟨z23, h23, hf⟩ := ob hf
      refine r_callVi (rest := [.int v4, .ref (ad Γ.2.2.1 q21)]) C0 hH (c_X8_skillsOfTrial Γ l Λ (pI z17 q19 0 v4) p0 v2 z23 h23) cv_X8_207 g22 (by decide) rfl hl.1 rfl (Nat.le_of_ble_eq_true rfl) dX8_kind_77 (by decide) (fun H locs hH => ?_)
      obtain ⟨g24, hf⟩ := gd hf
      obtain ⟨z25, h25, hf⟩ := ob hf
      refine r_callVv (rest := []) C0 hH (c_X0_offer Γ l Λ z23.2 q21 v4 z23.1 z25 h25) cv_X8_194 g24 (by decide) rfl hl.1 rfl (Nat.le_of_ble_eq_true rfl) dX8_kind_80 (by decide) (fun H locs hH => ?_)
      refine lv_iinc (v := (v4 + (1 : Int32))) (lv' := [(4, .int (v4 + (1 : Int32))), (0, .ref (ad Γ.2.2.1 p0)), (1, .int v1), (2, .int v2), (3, .int v3)]) hx hb dX8_kind_83 hl (k := 4) rfl (congrArg (fun w => v4 + w) (by decide)) (by decide) rfl (fun ls hl => ?_)
      refine lv_goto (tgt := 38) hx hb dX8_kind_86 (by decide) ?_
      exact ih (v4 + (1 : Int32)) z25 hf _ _ _ hH (lv_sub hl [1, 2, 3, 4, 0] rfl)
set_option maxHeartbeats 4000000 in
set_option maxRecDepth 100000 in
theorem c_X8_kind (Γ : Cx) (l : Launch) (Λ : List Ly) (d : Dt) (p0 : Nat) (v1 : Int32) (v2 : Int32) (v3 : Int32) (z : Int32 × Dt) (hf : f_X8_kind Λ d p0 v1 v2 v3 = some z) : Cn Γ l yX8_kind cX8_kind 5 (some FieldType.int) 6 128 [.ref (ad Γ.2.2.1 p0), .int v1, .int v2, .int v3] Λ d (some (.int z.1)) z.2 := by
  refine Cn.of (own := "SeasonBound") (by decide +kernel) rfl (Nat.le_of_ble_eq_true rfl) ?_
  intro p e s m below meth c C0 hr hlocks hH ls hl
  have hl : lv_has ls 5 [(0, .ref (ad Γ.2.2.1 p0)), (1, .int v1), (2, .int v2), (3, .int v3)] := hl
  obtain ⟨hx, hb, hml, hown, hts, hK⟩ := id C0
  unfold f_X8_kind at hf
  refine lv_aload_n hx hb dX8_kind_0 rfl (lv_at hl 0 rfl) ?_
  obtain ⟨q1, g1, hf⟩ := ob hf
  refine r_getr C0 hH fl_X8_24 g1 dX8_kind_1 ?_
  refine lv_iload_n hx hb dX8_kind_4 rfl (lv_at hl 1 rfl) ?_
  obtain ⟨g2, hf⟩ := gd hf
  obtain ⟨z3, h3, hf⟩ := ob hf
  refine r_callVi (rest := []) C0 hH (c_X7_has Γ l Λ d q1 v1 z3 h3) cv_X8_108 g2 (by decide) rfl hl.1 rfl (Nat.le_of_ble_eq_true rfl) dX8_kind_5 (by decide) (fun H locs hH => ?_)
  refine lv_if_eq (tgt := 25) hx hb dX8_kind_8 (by decide) (fun c4 => ?_) (fun c4 => ?_)
  · replace hf := it hf c4
    refine lv_iconst (v := (-1 : Int32)) hx hb dX8_kind_25 (by decide) ?_
    obtain rfl := Option.some.inj hf
    exact r_iret (d' := d) C0 hr hlocks hH rfl dX8_kind_26
  · replace hf := ie hf c4
    refine lv_iload_n hx hb dX8_kind_11 rfl (lv_at hl 2 rfl) ?_
    refine r_callSi (rest := []) C0 hH (c_X8_isRun Γ l Λ d v2) cs_X8_176 (by decide) rfl hl.1 rfl (Nat.le_of_ble_eq_true rfl) dX8_kind_12 (by decide) (fun H locs hH => ?_)
    refine lv_if_eq (tgt := 25) hx hb dX8_kind_15 (by decide) (fun c5 => ?_) (fun c5 => ?_)
    · replace hf := it hf c5
      refine lv_iconst (v := (-1 : Int32)) hx hb dX8_kind_25 (by decide) ?_
      obtain rfl := Option.some.inj hf
      exact r_iret (d' := d) C0 hr hlocks hH rfl dX8_kind_26
    · replace hf := ie hf c5
      refine lv_iload_n hx hb dX8_kind_18 rfl (lv_at hl 3 rfl) ?_
      refine r_callSi (rest := []) C0 hH (c_X8_isWhichOrHowMuch Γ l Λ d v3) cs_X8_188 (by decide) rfl hl.1 rfl (Nat.le_of_ble_eq_true rfl) dX8_kind_19 (by decide) (fun H locs hH => ?_)
      refine lv_if_ne (tgt := 27) hx hb dX8_kind_22 (by decide) (fun c6 => ?_) (fun c6 => ?_)
      · replace hf := ie hf c6
        refine lv_aload_n hx hb dX8_kind_27 rfl (lv_at hl 0 rfl) ?_
        obtain ⟨q7, g7, hf⟩ := ob hf
        refine r_getr C0 hH fl_X8_48 g7 dX8_kind_28 ?_
        refine lv_iconst (v := (-1 : Int32)) hx hb dX8_kind_31 (by decide) ?_
        obtain ⟨g8, hf⟩ := gd hf
        obtain ⟨z9, h9, hf⟩ := ob hf
        refine r_callVv (rest := []) C0 hH (c_X0_seekAbove Γ l Λ d q7 (-1 : Int32) z9 h9) cv_X8_191 g8 (by decide) rfl hl.1 rfl (Nat.le_of_ble_eq_true rfl) dX8_kind_32 (by decide) (fun H locs hH => ?_)
        refine lv_iconst (v := (0 : Int32)) hx hb dX8_kind_35 (by decide) ?_
        refine lv_istore (lv' := [(4, .int (0 : Int32)), (0, .ref (ad Γ.2.2.1 p0)), (1, .int v1), (2, .int v2), (3, .int v3)]) hx hb dX8_kind_36 hl (by decide) rfl (fun ls hl => ?_)
        refine w_X8_kind_L38 C0 hr hlocks p0 v1 v2 v3 FU (0 : Int32) z9 hf _ _ _ hH (lv_sub hl [1, 2, 3, 4, 0] rfl)
      · replace hf := it hf c6
        refine lv_iconst (v := (-1 : Int32)) hx hb dX8_kind_25 (by decide) ?_
        obtain rfl := Option.some.inj hf
        exact r_iret (d' := d) C0 hr hlocks hH rfl dX8_kind_26
theorem dX8_isLuck_0 : decode cX8_isLuck 0 = .ok (.iload_n 0, 1) := by decide +kernel
theorem dX8_isLuck_1 : decode cX8_isLuck 1 = .ok (.iconst 0, 1) := by decide +kernel
theorem dX8_isLuck_2 : decode cX8_isLuck 2 = .ok (.bipush 10, 2) := by decide +kernel
theorem dX8_isLuck_4 : decode cX8_isLuck 4 = .ok (.invokestatic 60, 3) := by decide +kernel
theorem dX8_isLuck_7 : decode cX8_isLuck 7 = .ok (.ifCond .eq 26, 3) := by decide +kernel
theorem dX8_isLuck_10 : decode cX8_isLuck 10 = .ok (.iload_n 1, 1) := by decide +kernel
theorem dX8_isLuck_11 : decode cX8_isLuck 11 = .ok (.iconst 0, 1) := by decide +kernel
theorem dX8_isLuck_12 : decode cX8_isLuck 12 = .ok (.bipush 8, 2) := by decide +kernel
theorem dX8_isLuck_14 : decode cX8_isLuck 14 = .ok (.invokestatic 60, 3) := by decide +kernel
theorem dX8_isLuck_17 : decode cX8_isLuck 17 = .ok (.ifCond .eq 16, 3) := by decide +kernel
theorem dX8_isLuck_20 : decode cX8_isLuck 20 = .ok (.iload_n 2, 1) := by decide +kernel
theorem dX8_isLuck_21 : decode cX8_isLuck 21 = .ok (.iconst 0, 1) := by decide +kernel
theorem dX8_isLuck_22 : decode cX8_isLuck 22 = .ok (.iconst 1, 1) := by decide +kernel
theorem dX8_isLuck_23 : decode cX8_isLuck 23 = .ok (.invokestatic 60, 3) := by decide +kernel
theorem dX8_isLuck_26 : decode cX8_isLuck 26 = .ok (.ifCond .eq 7, 3) := by decide +kernel
theorem dX8_isLuck_29 : decode cX8_isLuck 29 = .ok (.iconst 1, 1) := by decide +kernel
theorem dX8_isLuck_30 : decode cX8_isLuck 30 = .ok (.goto 4, 3) := by decide +kernel
theorem dX8_isLuck_33 : decode cX8_isLuck 33 = .ok (.iconst 0, 1) := by decide +kernel
theorem dX8_isLuck_34 : decode cX8_isLuck 34 = .ok (.ireturn, 1) := by decide +kernel
def f_X8_isLuck (v0 : Int32) (v1 : Int32) (v2 : Int32) : Int32 := if (f_X8_within v0 (0 : Int32) (10 : Int32)) = 0 then ((0 : Int32)) else (if (f_X8_within v1 (0 : Int32) (8 : Int32)) = 0 then ((0 : Int32)) else (if (f_X8_within v2 (0 : Int32) (1 : Int32)) = 0 then ((0 : Int32)) else ((1 : Int32))))
theorem bo_X8_isLuck (v0 : Int32) (v1 : Int32) (v2 : Int32) : f_X8_isLuck v0 v1 v2 = 0 ∨ f_X8_isLuck v0 v1 v2 = 1 := by
  unfold f_X8_isLuck
  (repeat' split) <;> first | exact Or.inl rfl | exact Or.inr rfl | exact bo_X8_within _ _ _
set_option maxHeartbeats 4000000 in
set_option maxRecDepth 100000 in
theorem c_X8_isLuck (Γ : Cx) (l : Launch) (Λ : List Ly) (d : Dt) (v0 : Int32) (v1 : Int32) (v2 : Int32) : Cn Γ l yX8_isLuck cX8_isLuck 3 (some FieldType.boolean) 1 22 [.int v0, .int v1, .int v2] Λ d (some (.int (f_X8_isLuck v0 v1 v2))) d := by
  generalize hf : f_X8_isLuck v0 v1 v2 = z
  refine Cn.of (own := "SeasonBound") (by decide +kernel) rfl (Nat.le_of_ble_eq_true rfl) ?_
  intro p e s m below meth c C0 hr hlocks hH ls hl
  have hl : lv_has ls 3 [(0, .int v0), (1, .int v1), (2, .int v2)] := hl
  obtain ⟨hx, hb, hml, hown, hts, hK⟩ := id C0
  unfold f_X8_isLuck at hf
  refine lv_iload_n hx hb dX8_isLuck_0 rfl (lv_at hl 0 rfl) ?_
  refine lv_iconst (v := (0 : Int32)) hx hb dX8_isLuck_1 (by decide) ?_
  refine lv_bipush (v := (10 : Int32)) hx hb dX8_isLuck_2 (by decide) ?_
  refine r_callSi (rest := []) C0 hH (c_X8_within Γ l Λ d v0 (0 : Int32) (10 : Int32)) cs_X8_60 (by decide) rfl hl.1 rfl (Nat.le_of_ble_eq_true rfl) dX8_isLuck_4 (by decide) (fun H locs hH => ?_)
  refine lv_if_eq (tgt := 33) hx hb dX8_isLuck_7 (by decide) (fun c1 => ?_) (fun c1 => ?_)
  · replace hf := it hf c1
    refine lv_iconst (v := (0 : Int32)) hx hb dX8_isLuck_33 (by decide) ?_
    subst hf
    exact r_iret (d' := d) C0 hr hlocks hH (nz (Or.inl rfl)) dX8_isLuck_34
  · replace hf := ie hf c1
    refine lv_iload_n hx hb dX8_isLuck_10 rfl (lv_at hl 1 rfl) ?_
    refine lv_iconst (v := (0 : Int32)) hx hb dX8_isLuck_11 (by decide) ?_
    refine lv_bipush (v := (8 : Int32)) hx hb dX8_isLuck_12 (by decide) ?_
    refine r_callSi (rest := []) C0 hH (c_X8_within Γ l Λ d v1 (0 : Int32) (8 : Int32)) cs_X8_60 (by decide) rfl hl.1 rfl (Nat.le_of_ble_eq_true rfl) dX8_isLuck_14 (by decide) (fun H locs hH => ?_)
    refine lv_if_eq (tgt := 33) hx hb dX8_isLuck_17 (by decide) (fun c2 => ?_) (fun c2 => ?_)
    · replace hf := it hf c2
      refine lv_iconst (v := (0 : Int32)) hx hb dX8_isLuck_33 (by decide) ?_
      subst hf
      exact r_iret (d' := d) C0 hr hlocks hH (nz (Or.inl rfl)) dX8_isLuck_34
    · replace hf := ie hf c2
      refine lv_iload_n hx hb dX8_isLuck_20 rfl (lv_at hl 2 rfl) ?_
      refine lv_iconst (v := (0 : Int32)) hx hb dX8_isLuck_21 (by decide) ?_
      refine lv_iconst (v := (1 : Int32)) hx hb dX8_isLuck_22 (by decide) ?_
      refine r_callSi (rest := []) C0 hH (c_X8_within Γ l Λ d v2 (0 : Int32) (1 : Int32)) cs_X8_60 (by decide) rfl hl.1 rfl (Nat.le_of_ble_eq_true rfl) dX8_isLuck_23 (by decide) (fun H locs hH => ?_)
      refine lv_if_eq (tgt := 33) hx hb dX8_isLuck_26 (by decide) (fun c3 => ?_) (fun c3 => ?_)
      · replace hf := it hf c3
        refine lv_iconst (v := (0 : Int32)) hx hb dX8_isLuck_33 (by decide) ?_
        subst hf
        exact r_iret (d' := d) C0 hr hlocks hH (nz (Or.inl rfl)) dX8_isLuck_34
      · replace hf := ie hf c3
        refine lv_iconst (v := (1 : Int32)) hx hb dX8_isLuck_29 (by decide) ?_
        refine lv_goto (tgt := 34) hx hb dX8_isLuck_30 (by decide) ?_
        subst hf
        exact r_iret (d' := d) C0 hr hlocks hH (nz (Or.inr rfl)) dX8_isLuck_34
theorem dX8_lessonsInTrial_0 : decode cX8_lessonsInTrial 0 = .ok (.aload_n 0, 1) := by decide +kernel
theorem dX8_lessonsInTrial_1 : decode cX8_lessonsInTrial 1 = .ok (.getfield 24, 3) := by decide +kernel
theorem dX8_lessonsInTrial_4 : decode cX8_lessonsInTrial 4 = .ok (.getfield 112, 3) := by decide +kernel
theorem dX8_lessonsInTrial_7 : decode cX8_lessonsInTrial 7 = .ok (.iload_n 1, 1) := by decide +kernel
theorem dX8_lessonsInTrial_8 : decode cX8_lessonsInTrial 8 = .ok (.aaload, 1) := by decide +kernel
theorem dX8_lessonsInTrial_9 : decode cX8_lessonsInTrial 9 = .ok (.getfield 128, 3) := by decide +kernel
theorem dX8_lessonsInTrial_12 : decode cX8_lessonsInTrial 12 = .ok (.aload_n 0, 1) := by decide +kernel
theorem dX8_lessonsInTrial_13 : decode cX8_lessonsInTrial 13 = .ok (.getfield 28, 3) := by decide +kernel
theorem dX8_lessonsInTrial_16 : decode cX8_lessonsInTrial 16 = .ok (.getfield 112, 3) := by decide +kernel
theorem dX8_lessonsInTrial_19 : decode cX8_lessonsInTrial 19 = .ok (.iload_n 1, 1) := by decide +kernel
theorem dX8_lessonsInTrial_20 : decode cX8_lessonsInTrial 20 = .ok (.aaload, 1) := by decide +kernel
theorem dX8_lessonsInTrial_21 : decode cX8_lessonsInTrial 21 = .ok (.getfield 128, 3) := by decide +kernel
theorem dX8_lessonsInTrial_24 : decode cX8_lessonsInTrial 24 = .ok (.isub, 1) := by decide +kernel
theorem dX8_lessonsInTrial_25 : decode cX8_lessonsInTrial 25 = .ok (.ireturn, 1) := by decide +kernel
def f_X8_lessonsInTrial (Λ : List Ly) (d : Dt) (p0 : Nat) (v1 : Int32) : Option Int32 := Option.bind (rf Λ p0 8 2) fun q1 => Option.bind (rf Λ q1 7 1) fun q2 => Option.bind (ra Λ q2 4 v1) fun q3 => if clsAt Λ q3 = some 1 then (Option.bind (rf Λ p0 8 3) fun q5 => Option.bind (rf Λ q5 7 1) fun q6 => Option.bind (ra Λ q6 4 v1) fun q7 => if clsAt Λ q7 = some 1 then (some ((d.1 q3 2) - (d.1 q7 2))) else none) else none
set_option maxHeartbeats 4000000 in
set_option maxRecDepth 100000 in
theorem c_X8_lessonsInTrial (Γ : Cx) (l : Launch) (Λ : List Ly) (d : Dt) (p0 : Nat) (v1 : Int32) (z : Int32) (hf : f_X8_lessonsInTrial Λ d p0 v1 = some z) : Cn Γ l yX8_lessonsInTrial cX8_lessonsInTrial 2 (some FieldType.int) 0 0 [.ref (ad Γ.2.2.1 p0), .int v1] Λ d (some (.int z)) d := by
  refine Cn.of (own := "SeasonBound") (by decide +kernel) rfl (Nat.le_of_ble_eq_true rfl) ?_
  intro p e s m below meth c C0 hr hlocks hH ls hl
  have hl : lv_has ls 2 [(0, .ref (ad Γ.2.2.1 p0)), (1, .int v1)] := hl
  obtain ⟨hx, hb, hml, hown, hts, hK⟩ := id C0
  unfold f_X8_lessonsInTrial at hf
  refine lv_aload_n hx hb dX8_lessonsInTrial_0 rfl (lv_at hl 0 rfl) ?_
  obtain ⟨q1, g1, hf⟩ := ob hf
  refine r_getr C0 hH fl_X8_24 g1 dX8_lessonsInTrial_1 ?_
  obtain ⟨q2, g2, hf⟩ := ob hf
  refine r_getr C0 hH fl_X8_112 g2 dX8_lessonsInTrial_4 ?_
  refine lv_iload_n hx hb dX8_lessonsInTrial_7 rfl (lv_at hl 1 rfl) ?_
  obtain ⟨q3, g3, hf⟩ := ob hf
  refine r_aald (C := "SeasonBound$Child") C0 hH g3 (by decide) rfl dX8_lessonsInTrial_8 ?_
  obtain ⟨g4, hf⟩ := gd hf
  refine r_geti C0 hH fl_X8_128 g4 rfl dX8_lessonsInTrial_9 ?_
  refine lv_aload_n hx hb dX8_lessonsInTrial_12 rfl (lv_at hl 0 rfl) ?_
  obtain ⟨q5, g5, hf⟩ := ob hf
  refine r_getr C0 hH fl_X8_28 g5 dX8_lessonsInTrial_13 ?_
  obtain ⟨q6, g6, hf⟩ := ob hf
  refine r_getr C0 hH fl_X8_112 g6 dX8_lessonsInTrial_16 ?_
  refine lv_iload_n hx hb dX8_lessonsInTrial_19 rfl (lv_at hl 1 rfl) ?_
  obtain ⟨q7, g7, hf⟩ := ob hf
  refine r_aald (C := "SeasonBound$Child") C0 hH g7 (by decide) rfl dX8_lessonsInTrial_20 ?_
  obtain ⟨g8, hf⟩ := gd hf
  refine r_geti C0 hH fl_X8_128 g8 rfl dX8_lessonsInTrial_21 ?_
  refine lv_isub hx hb dX8_lessonsInTrial_24 ?_
  obtain rfl := Option.some.inj hf
  exact r_iret (d' := d) C0 hr hlocks hH rfl dX8_lessonsInTrial_25
theorem dX8_powerOfTen_0 : decode cX8_powerOfTen 0 = .ok (.lconst 1, 1) := by decide +kernel
theorem dX8_powerOfTen_1 : decode cX8_powerOfTen 1 = .ok (.lstore_n 1, 1) := by decide +kernel
theorem dX8_powerOfTen_2 : decode cX8_powerOfTen 2 = .ok (.iconst 0, 1) := by decide +kernel
theorem dX8_powerOfTen_3 : decode cX8_powerOfTen 3 = .ok (.istore_n 3, 1) := by decide +kernel
theorem dX8_powerOfTen_4 : decode cX8_powerOfTen 4 = .ok (.iload_n 3, 1) := by decide +kernel
theorem dX8_powerOfTen_5 : decode cX8_powerOfTen 5 = .ok (.iload_n 0, 1) := by decide +kernel
theorem dX8_powerOfTen_6 : decode cX8_powerOfTen 6 = .ok (.if_icmp .ge 15, 3) := by decide +kernel
theorem dX8_powerOfTen_9 : decode cX8_powerOfTen 9 = .ok (.lload_n 1, 1) := by decide +kernel
theorem dX8_powerOfTen_10 : decode cX8_powerOfTen 10 = .ok (.ldc2_w 244, 3) := by decide +kernel
theorem dX8_powerOfTen_13 : decode cX8_powerOfTen 13 = .ok (.lmul, 1) := by decide +kernel
theorem dX8_powerOfTen_14 : decode cX8_powerOfTen 14 = .ok (.lstore_n 1, 1) := by decide +kernel
theorem dX8_powerOfTen_15 : decode cX8_powerOfTen 15 = .ok (.iinc 3 1, 3) := by decide +kernel
theorem dX8_powerOfTen_18 : decode cX8_powerOfTen 18 = .ok (.goto (-14), 3) := by decide +kernel
theorem dX8_powerOfTen_21 : decode cX8_powerOfTen 21 = .ok (.lload_n 1, 1) := by decide +kernel
theorem dX8_powerOfTen_22 : decode cX8_powerOfTen 22 = .ok (.lreturn, 1) := by decide +kernel
def f_X8_powerOfTen_L4 (v0 : Int32) : Nat → Int64 → Int32 → Option Int64
  | 0, _, _ => none
  | n + 1, v1, v3 => if v0 ≤ v3 then (some v1) else (f_X8_powerOfTen_L4 v0 n (v1 * (10 : Int64)) (v3 + (1 : Int32)))
def f_X8_powerOfTen (v0 : Int32) : Option Int64 := f_X8_powerOfTen_L4 v0 FU (1 : Int64) (0 : Int32)
set_option maxHeartbeats 4000000 in
set_option maxRecDepth 100000 in
theorem w_X8_powerOfTen_L4 {p : Program} {l : Launch} {e : Env} {s : State} {m : MethodId} {args : Array Value} {below : List Frame} {meth : Method} {c : Code} {Γ : Cx} {Λ : List Ly} {z : Int64} {d : Dt} (C0 : Ct Γ p s m args c cX8_powerOfTen 4 "SeasonBound") (hr : meth.sig.returnType = (some FieldType.long)) (hlocks : meth.locks = false) (v0 : Int32) :
    ∀ (n : Nat) (v1 : Int64) (v3 : Int32), f_X8_powerOfTen_L4 v0 n v1 v3 = some z → ∀ (H : Heap) (locs : List Loc) (ls : Array Slot), Hs Γ Λ d s H locs → lv_has ls 4 [(0, .int v0), (1, .long v1), (3, .int v3)] → W p l e { frames := 0, cells := 0, slots := 0, locals := 0 } s m args below meth c H locs 0 0 (MQ below (QN Γ Λ d (some (.long z))) args s 0 0 (AP Γ)) (F0 m 4 ls []) := by
  obtain ⟨hx, hb, hml, hown, hts, hK⟩ := id C0
  intro n
  induction n with
  | zero =>
    intro v1 v3 hf
    cases hf
  | succ n ih =>
    intro v1 v3 hf H locs ls hH hl
    unfold f_X8_powerOfTen_L4 at hf
    refine lv_iload_n hx hb dX8_powerOfTen_4 rfl (lv_at hl 2 rfl) ?_
    refine lv_iload_n hx hb dX8_powerOfTen_5 rfl (lv_at hl 0 rfl) ?_
    refine lv_icmp_ge (tgt := 21) hx hb dX8_powerOfTen_6 (by decide) (fun c1 => ?_) (fun c1 => ?_)
    · replace hf := it hf c1
      refine lv_lload_n hx hb dX8_powerOfTen_21 rfl (lv_at hl 1 rfl) ?_
      obtain rfl := Option.some.inj hf
      exact r_lret C0 hr hlocks hH dX8_powerOfTen_22
    · replace hf := ie hf c1
      refine lv_lload_n hx hb dX8_powerOfTen_9 rfl (lv_at hl 1 rfl) ?_
      refine lv_ldc2 hx hb hown (hts _ kl_X8_244) dX8_powerOfTen_10 ?_
      refine lv_lmul hx hb dX8_powerOfTen_13 ?_
      refine lv_lstore_n (lv' := [(1, .long (v1 * (10 : Int64))), (0, .int v0), (3, .int v3)]) hx hb dX8_powerOfTen_14 rfl hl (by decide) rfl (fun ls hl => ?_)
      refine lv_iinc (v := (v3 + (1 : Int32))) (lv' := [(3, .int (v3 + (1 : Int32))), (1, .long (v1 * (10 : Int64))), (0, .int v0)]) hx hb dX8_powerOfTen_15 hl (k := 2) rfl (congrArg (fun w => v3 + w) (by decide)) (by decide) rfl (fun ls hl => ?_)
      refine lv_goto (tgt := 4) hx hb dX8_powerOfTen_18 (by decide) ?_
      exact ih (v1 * (10 : Int64)) (v3 + (1 : Int32)) hf _ _ _ hH (lv_sub hl [2, 1, 0] rfl)
set_option maxHeartbeats 4000000 in
set_option maxRecDepth 100000 in
theorem c_X8_powerOfTen (Γ : Cx) (l : Launch) (Λ : List Ly) (d : Dt) (v0 : Int32) (z : Int64) (hf : f_X8_powerOfTen v0 = some z) : Cn Γ l yX8_powerOfTen cX8_powerOfTen 4 (some FieldType.long) 0 0 [.int v0] Λ d (some (.long z)) d := by
  refine Cn.of (own := "SeasonBound") (by decide +kernel) rfl (Nat.le_of_ble_eq_true rfl) ?_
  intro p e s m below meth c C0 hr hlocks hH ls hl
  have hl : lv_has ls 4 [(0, .int v0)] := hl
  obtain ⟨hx, hb, hml, hown, hts, hK⟩ := id C0
  unfold f_X8_powerOfTen at hf
  refine lv_lconst (v := (1 : Int64)) hx hb dX8_powerOfTen_0 (by decide) ?_
  refine lv_lstore_n (lv' := [(1, .long (1 : Int64)), (0, .int v0)]) hx hb dX8_powerOfTen_1 rfl hl (by decide) rfl (fun ls hl => ?_)
  refine lv_iconst (v := (0 : Int32)) hx hb dX8_powerOfTen_2 (by decide) ?_
  refine lv_istore_n (lv' := [(3, .int (0 : Int32)), (1, .long (1 : Int64)), (0, .int v0)]) hx hb dX8_powerOfTen_3 rfl hl (by decide) rfl (fun ls hl => ?_)
  refine w_X8_powerOfTen_L4 C0 hr hlocks v0 FU (1 : Int64) (0 : Int32) hf _ _ _ hH (lv_sub hl [2, 1, 0] rfl)
theorem dX8_partOfFraction_0 : decode cX8_partOfFraction 0 = .ok (.lload_n 2, 1) := by decide +kernel
theorem dX8_partOfFraction_1 : decode cX8_partOfFraction 1 = .ok (.lstore 5, 2) := by decide +kernel
theorem dX8_partOfFraction_3 : decode cX8_partOfFraction 3 = .ok (.lload_n 0, 1) := by decide +kernel
theorem dX8_partOfFraction_4 : decode cX8_partOfFraction 4 = .ok (.lstore 7, 2) := by decide +kernel
theorem dX8_partOfFraction_6 : decode cX8_partOfFraction 6 = .ok (.iconst 0, 1) := by decide +kernel
theorem dX8_partOfFraction_7 : decode cX8_partOfFraction 7 = .ok (.istore 9, 2) := by decide +kernel
theorem dX8_partOfFraction_9 : decode cX8_partOfFraction 9 = .ok (.iload 9, 2) := by decide +kernel
theorem dX8_partOfFraction_11 : decode cX8_partOfFraction 11 = .ok (.bipush 100, 2) := by decide +kernel
theorem dX8_partOfFraction_13 : decode cX8_partOfFraction 13 = .ok (.if_icmp .ge 31, 3) := by decide +kernel
theorem dX8_partOfFraction_16 : decode cX8_partOfFraction 16 = .ok (.lload 7, 2) := by decide +kernel
theorem dX8_partOfFraction_18 : decode cX8_partOfFraction 18 = .ok (.lconst 0, 1) := by decide +kernel
theorem dX8_partOfFraction_19 : decode cX8_partOfFraction 19 = .ok (.lcmp, 1) := by decide +kernel
theorem dX8_partOfFraction_20 : decode cX8_partOfFraction 20 = .ok (.ifCond .eq 24, 3) := by decide +kernel
theorem dX8_partOfFraction_23 : decode cX8_partOfFraction 23 = .ok (.lload 5, 2) := by decide +kernel
theorem dX8_partOfFraction_25 : decode cX8_partOfFraction 25 = .ok (.lload 7, 2) := by decide +kernel
theorem dX8_partOfFraction_27 : decode cX8_partOfFraction 27 = .ok (.lrem, 1) := by decide +kernel
theorem dX8_partOfFraction_28 : decode cX8_partOfFraction 28 = .ok (.lstore 10, 2) := by decide +kernel
theorem dX8_partOfFraction_30 : decode cX8_partOfFraction 30 = .ok (.lload 7, 2) := by decide +kernel
theorem dX8_partOfFraction_32 : decode cX8_partOfFraction 32 = .ok (.lstore 5, 2) := by decide +kernel
theorem dX8_partOfFraction_34 : decode cX8_partOfFraction 34 = .ok (.lload 10, 2) := by decide +kernel
theorem dX8_partOfFraction_36 : decode cX8_partOfFraction 36 = .ok (.lstore 7, 2) := by decide +kernel
theorem dX8_partOfFraction_38 : decode cX8_partOfFraction 38 = .ok (.iinc 9 1, 3) := by decide +kernel
theorem dX8_partOfFraction_41 : decode cX8_partOfFraction 41 = .ok (.goto (-32), 3) := by decide +kernel
theorem dX8_partOfFraction_44 : decode cX8_partOfFraction 44 = .ok (.lload 5, 2) := by decide +kernel
theorem dX8_partOfFraction_46 : decode cX8_partOfFraction 46 = .ok (.lconst 0, 1) := by decide +kernel
theorem dX8_partOfFraction_47 : decode cX8_partOfFraction 47 = .ok (.lcmp, 1) := by decide +kernel
theorem dX8_partOfFraction_48 : decode cX8_partOfFraction 48 = .ok (.ifCond .ne 7, 3) := by decide +kernel
theorem dX8_partOfFraction_51 : decode cX8_partOfFraction 51 = .ok (.ldc2_w 218, 3) := by decide +kernel
theorem dX8_partOfFraction_54 : decode cX8_partOfFraction 54 = .ok (.lreturn, 1) := by decide +kernel
theorem dX8_partOfFraction_55 : decode cX8_partOfFraction 55 = .ok (.iload 4, 2) := by decide +kernel
theorem dX8_partOfFraction_57 : decode cX8_partOfFraction 57 = .ok (.ifCond .ne 7, 3) := by decide +kernel
theorem dX8_partOfFraction_60 : decode cX8_partOfFraction 60 = .ok (.lload_n 0, 1) := by decide +kernel
theorem dX8_partOfFraction_61 : decode cX8_partOfFraction 61 = .ok (.goto 4, 3) := by decide +kernel
theorem dX8_partOfFraction_64 : decode cX8_partOfFraction 64 = .ok (.lload_n 2, 1) := by decide +kernel
theorem dX8_partOfFraction_65 : decode cX8_partOfFraction 65 = .ok (.lload 5, 2) := by decide +kernel
theorem dX8_partOfFraction_67 : decode cX8_partOfFraction 67 = .ok (.ldiv, 1) := by decide +kernel
theorem dX8_partOfFraction_68 : decode cX8_partOfFraction 68 = .ok (.lreturn, 1) := by decide +kernel
def f_X8_partOfFraction_L9 (v0 : Int64) (v2 : Int64) (v4 : Int32) (k44 : Int64 → Int64 → Int32 → Option Int64) : Nat → Int64 → Int64 → Int32 → Option Int64
  | 0, _, _, _ => none
  | n + 1, v5, v7, v9 => if (100 : Int32) ≤ v9 then (k44 v5 v7 v9) else (if (lg_cmp v7 (0 : Int64)) = 0 then (k44 v5 v7 v9) else (if ¬ v7 = 0 then (f_X8_partOfFraction_L9 v0 v2 v4 k44 n v7 (v5 - v5 / v7 * v7) (v9 + (1 : Int32))) else none))
def f_X8_partOfFraction_J44 (v0 : Int64) (v2 : Int64) (v4 : Int32) (v5 : Int64) : Option Int64 := if (lg_cmp v5 (0 : Int64)) = 0 then (some (-1 : Int64)) else (if v4 = 0 then (if ¬ v5 = 0 then (some (v0 / v5)) else none) else (if ¬ v5 = 0 then (some (v2 / v5)) else none))
def f_X8_partOfFraction (v0 : Int64) (v2 : Int64) (v4 : Int32) : Option Int64 := f_X8_partOfFraction_L9 v0 v2 v4 (fun x4_5 x4_7 x4_9 => f_X8_partOfFraction_J44 v0 v2 v4 x4_5) FU v2 v0 (0 : Int32)
set_option maxHeartbeats 4000000 in
set_option maxRecDepth 100000 in
theorem w_X8_partOfFraction_L9 {p : Program} {l : Launch} {e : Env} {s : State} {m : MethodId} {args : Array Value} {below : List Frame} {meth : Method} {c : Code} {Γ : Cx} {Λ : List Ly} {z : Int64} {d : Dt} (C0 : Ct Γ p s m args c cX8_partOfFraction 12 "SeasonBound") (hr : meth.sig.returnType = (some FieldType.long)) (hlocks : meth.locks = false) (k44 : Int64 → Int64 → Int32 → Option Int64) (v0 : Int64) (v2 : Int64) (v4 : Int32)
    (hk44 : ∀ (v5 : Int64) (v7 : Int64) (v9 : Int32), (k44 v5 v7 v9 = some z) → ∀ (H : Heap) (locs : List Loc) (ls : Array Slot), Hs Γ Λ d s H locs → lv_has ls 12 [(0, .long v0), (2, .long v2), (4, .int v4), (5, .long v5), (7, .long v7), (9, .int v9)] → W p l e { frames := 0, cells := 0, slots := 0, locals := 0 } s m args below meth c H locs 0 0 (MQ below (QN Γ Λ d (some (.long z))) args s 0 0 (AP Γ)) (F0 m 44 ls [])) :
    ∀ (n : Nat) (v5 : Int64) (v7 : Int64) (v9 : Int32), f_X8_partOfFraction_L9 v0 v2 v4 k44 n v5 v7 v9 = some z → ∀ (H : Heap) (locs : List Loc) (ls : Array Slot), Hs Γ Λ d s H locs → lv_has ls 12 [(0, .long v0), (2, .long v2), (4, .int v4), (5, .long v5), (7, .long v7), (9, .int v9)] → W p l e { frames := 0, cells := 0, slots := 0, locals := 0 } s m args below meth c H locs 0 0 (MQ below (QN Γ Λ d (some (.long z))) args s 0 0 (AP Γ)) (F0 m 9 ls []) := by
  obtain ⟨hx, hb, hml, hown, hts, hK⟩ := id C0
  intro n
  induction n with
  | zero =>
    intro v5 v7 v9 hf
    cases hf
  | succ n ih =>
    intro v5 v7 v9 hf H locs ls hH hl
    unfold f_X8_partOfFraction_L9 at hf
    refine lv_iload hx hb dX8_partOfFraction_9 (lv_at hl 5 rfl) ?_
    refine lv_bipush (v := (100 : Int32)) hx hb dX8_partOfFraction_11 (by decide) ?_
    refine lv_icmp_ge (tgt := 44) hx hb dX8_partOfFraction_13 (by decide) (fun c1 => ?_) (fun c1 => ?_)
    · replace hf := it hf c1
      exact hk44 v5 v7 v9 hf _ _ _ hH (lv_sub hl [0, 1, 2, 3, 4, 5] rfl)
    · replace hf := ie hf c1
      refine lv_lload hx hb dX8_partOfFraction_16 (lv_at hl 4 rfl) ?_
      refine lv_lconst (v := (0 : Int64)) hx hb dX8_partOfFraction_18 (by decide) ?_
      refine W.lcmp hx hb dX8_partOfFraction_19 ?_
      refine lv_if_eq (tgt := 44) hx hb dX8_partOfFraction_20 (by decide) (fun c2 => ?_) (fun c2 => ?_)
      · replace hf := it hf c2
        exact hk44 v5 v7 v9 hf _ _ _ hH (lv_sub hl [0, 1, 2, 3, 4, 5] rfl)
      · replace hf := ie hf c2
        refine lv_lload hx hb dX8_partOfFraction_23 (lv_at hl 3 rfl) ?_
        refine lv_lload hx hb dX8_partOfFraction_25 (lv_at hl 4 rfl) ?_
        obtain ⟨g3, hf⟩ := gd hf
        refine lv_lrem hx hb dX8_partOfFraction_27 g3 ?_
        refine lv_lstore (lv' := [(10, .long (v5 - v5 / v7 * v7)), (0, .long v0), (2, .long v2), (4, .int v4), (5, .long v5), (7, .long v7), (9, .int v9)]) hx hb dX8_partOfFraction_28 hl (by decide) rfl (fun ls hl => ?_)
        refine lv_lload hx hb dX8_partOfFraction_30 (lv_at hl 5 rfl) ?_
        refine lv_lstore (lv' := [(5, .long v7), (10, .long (v5 - v5 / v7 * v7)), (0, .long v0), (2, .long v2), (4, .int v4), (7, .long v7), (9, .int v9)]) hx hb dX8_partOfFraction_32 hl (by decide) rfl (fun ls hl => ?_)
        refine lv_lload hx hb dX8_partOfFraction_34 (lv_at hl 1 rfl) ?_
        refine lv_lstore (lv' := [(7, .long (v5 - v5 / v7 * v7)), (5, .long v7), (10, .long (v5 - v5 / v7 * v7)), (0, .long v0), (2, .long v2), (4, .int v4), (9, .int v9)]) hx hb dX8_partOfFraction_36 hl (by decide) rfl (fun ls hl => ?_)
        refine lv_iinc (v := (v9 + (1 : Int32))) (lv' := [(9, .int (v9 + (1 : Int32))), (7, .long (v5 - v5 / v7 * v7)), (5, .long v7), (10, .long (v5 - v5 / v7 * v7)), (0, .long v0), (2, .long v2), (4, .int v4)]) hx hb dX8_partOfFraction_38 hl (k := 6) rfl (congrArg (fun w => v9 + w) (by decide)) (by decide) rfl (fun ls hl => ?_)
        refine lv_goto (tgt := 9) hx hb dX8_partOfFraction_41 (by decide) ?_
        exact ih v7 (v5 - v5 / v7 * v7) (v9 + (1 : Int32)) hf _ _ _ hH (lv_sub hl [4, 5, 6, 2, 1, 0] rfl)
set_option maxHeartbeats 4000000 in
set_option maxRecDepth 100000 in
theorem w_X8_partOfFraction_J44 {p : Program} {l : Launch} {e : Env} {s : State} {m : MethodId} {args : Array Value} {below : List Frame} {meth : Method} {c : Code} {Γ : Cx} {Λ : List Ly} {z : Int64} {d : Dt} (C0 : Ct Γ p s m args c cX8_partOfFraction 12 "SeasonBound") (hr : meth.sig.returnType = (some FieldType.long)) (hlocks : meth.locks = false) (v0 : Int64) (v2 : Int64) (v4 : Int32) (v5 : Int64)
    (hf : f_X8_partOfFraction_J44 v0 v2 v4 v5 = some z) (H : Heap) (locs : List Loc) (ls : Array Slot) (hH : Hs Γ Λ d s H locs) (hl : lv_has ls 12 [(0, .long v0), (2, .long v2), (4, .int v4), (5, .long v5)]) : W p l e { frames := 0, cells := 0, slots := 0, locals := 0 } s m args below meth c H locs 0 0 (MQ below (QN Γ Λ d (some (.long z))) args s 0 0 (AP Γ)) (F0 m 44 ls []) := by
  obtain ⟨hx, hb, hml, hown, hts, hK⟩ := id C0
  unfold f_X8_partOfFraction_J44 at hf
  refine lv_lload hx hb dX8_partOfFraction_44 (lv_at hl 3 rfl) ?_
  refine lv_lconst (v := (0 : Int64)) hx hb dX8_partOfFraction_46 (by decide) ?_
  refine W.lcmp hx hb dX8_partOfFraction_47 ?_
  refine lv_if_ne (tgt := 55) hx hb dX8_partOfFraction_48 (by decide) (fun c5 => ?_) (fun c5 => ?_)
  · replace hf := ie hf c5
    refine lv_iload hx hb dX8_partOfFraction_55 (lv_at hl 2 rfl) ?_
    refine lv_if_ne (tgt := 64) hx hb dX8_partOfFraction_57 (by decide) (fun c6 => ?_) (fun c6 => ?_)
    · replace hf := ie hf c6
      refine lv_lload_n hx hb dX8_partOfFraction_64 rfl (lv_at hl 1 rfl) ?_
      refine lv_lload hx hb dX8_partOfFraction_65 (lv_at hl 3 rfl) ?_
      obtain ⟨g7, hf⟩ := gd hf
      refine lv_ldiv hx hb dX8_partOfFraction_67 g7 ?_
      obtain rfl := Option.some.inj hf
      exact r_lret C0 hr hlocks hH dX8_partOfFraction_68
    · replace hf := it hf c6
      refine lv_lload_n hx hb dX8_partOfFraction_60 rfl (lv_at hl 0 rfl) ?_
      refine lv_goto (tgt := 65) hx hb dX8_partOfFraction_61 (by decide) ?_
      refine lv_lload hx hb dX8_partOfFraction_65 (lv_at hl 3 rfl) ?_
      obtain ⟨g8, hf⟩ := gd hf
      refine lv_ldiv hx hb dX8_partOfFraction_67 g8 ?_
      obtain rfl := Option.some.inj hf
      exact r_lret C0 hr hlocks hH dX8_partOfFraction_68
  · replace hf := it hf c5
    refine lv_ldc2 hx hb hown (hts _ kl_X8_218) dX8_partOfFraction_51 ?_
    obtain rfl := Option.some.inj hf
    exact r_lret C0 hr hlocks hH dX8_partOfFraction_54
set_option maxHeartbeats 4000000 in
set_option maxRecDepth 100000 in
theorem c_X8_partOfFraction (Γ : Cx) (l : Launch) (Λ : List Ly) (d : Dt) (v0 : Int64) (v2 : Int64) (v4 : Int32) (z : Int64) (hf : f_X8_partOfFraction v0 v2 v4 = some z) : Cn Γ l yX8_partOfFraction cX8_partOfFraction 12 (some FieldType.long) 0 0 [.long v0, .long v2, .int v4] Λ d (some (.long z)) d := by
  refine Cn.of (own := "SeasonBound") (by decide +kernel) rfl (Nat.le_of_ble_eq_true rfl) ?_
  intro p e s m below meth c C0 hr hlocks hH ls hl
  have hl : lv_has ls 12 [(0, .long v0), (2, .long v2), (4, .int v4)] := hl
  obtain ⟨hx, hb, hml, hown, hts, hK⟩ := id C0
  unfold f_X8_partOfFraction at hf
  refine lv_lload_n hx hb dX8_partOfFraction_0 rfl (lv_at hl 1 rfl) ?_
  refine lv_lstore (lv' := [(5, .long v2), (0, .long v0), (2, .long v2), (4, .int v4)]) hx hb dX8_partOfFraction_1 hl (by decide) rfl (fun ls hl => ?_)
  refine lv_lload_n hx hb dX8_partOfFraction_3 rfl (lv_at hl 1 rfl) ?_
  refine lv_lstore (lv' := [(7, .long v0), (5, .long v2), (0, .long v0), (2, .long v2), (4, .int v4)]) hx hb dX8_partOfFraction_4 hl (by decide) rfl (fun ls hl => ?_)
  refine lv_iconst (v := (0 : Int32)) hx hb dX8_partOfFraction_6 (by decide) ?_
  refine lv_istore (lv' := [(9, .int (0 : Int32)), (7, .long v0), (5, .long v2), (0, .long v0), (2, .long v2), (4, .int v4)]) hx hb dX8_partOfFraction_7 hl (by decide) rfl (fun ls hl => ?_)
  refine w_X8_partOfFraction_L9 C0 hr hlocks _ v0 v2 v4 ?k44 FU v2 v0 (0 : Int32) hf _ _ _ hH (lv_sub hl [3, 4, 5, 2, 1, 0] rfl)
  case k44 =>
    intro x4_5 x4_7 x4_9 hf H locs ls hH hl
    exact w_X8_partOfFraction_J44 C0 hr hlocks v0 v2 v4 x4_5 hf _ _ _ hH (lv_sub hl [0, 1, 2, 3] rfl)
theorem dX8_luck_0 : decode cX8_luck 0 = .ok (.iload_n 1, 1) := by decide +kernel
theorem dX8_luck_1 : decode cX8_luck 1 = .ok (.iload_n 3, 1) := by decide +kernel
theorem dX8_luck_2 : decode cX8_luck 2 = .ok (.iload 5, 2) := by decide +kernel
theorem dX8_luck_4 : decode cX8_luck 4 = .ok (.invokestatic 215, 3) := by decide +kernel
theorem dX8_luck_7 : decode cX8_luck 7 = .ok (.ifCond .eq 25, 3) := by decide +kernel
theorem dX8_luck_10 : decode cX8_luck 10 = .ok (.aload_n 0, 1) := by decide +kernel
theorem dX8_luck_11 : decode cX8_luck 11 = .ok (.getfield 24, 3) := by decide +kernel
theorem dX8_luck_14 : decode cX8_luck 14 = .ok (.iload_n 2, 1) := by decide +kernel
theorem dX8_luck_15 : decode cX8_luck 15 = .ok (.invokevirtual 108, 3) := by decide +kernel
theorem dX8_luck_18 : decode cX8_luck 18 = .ok (.ifCond .eq 14, 3) := by decide +kernel
theorem dX8_luck_21 : decode cX8_luck 21 = .ok (.iload 4, 2) := by decide +kernel
theorem dX8_luck_23 : decode cX8_luck 23 = .ok (.iconst 0, 1) := by decide +kernel
theorem dX8_luck_24 : decode cX8_luck 24 = .ok (.bipush 99, 2) := by decide +kernel
theorem dX8_luck_26 : decode cX8_luck 26 = .ok (.invokestatic 60, 3) := by decide +kernel
theorem dX8_luck_29 : decode cX8_luck 29 = .ok (.ifCond .ne 7, 3) := by decide +kernel
theorem dX8_luck_32 : decode cX8_luck 32 = .ok (.ldc2_w 218, 3) := by decide +kernel
theorem dX8_luck_35 : decode cX8_luck 35 = .ok (.lreturn, 1) := by decide +kernel
theorem dX8_luck_36 : decode cX8_luck 36 = .ok (.aload_n 0, 1) := by decide +kernel
theorem dX8_luck_37 : decode cX8_luck 37 = .ok (.getfield 28, 3) := by decide +kernel
theorem dX8_luck_40 : decode cX8_luck 40 = .ok (.aload_n 0, 1) := by decide +kernel
theorem dX8_luck_41 : decode cX8_luck 41 = .ok (.getfield 24, 3) := by decide +kernel
theorem dX8_luck_44 : decode cX8_luck 44 = .ok (.invokevirtual 87, 3) := by decide +kernel
theorem dX8_luck_47 : decode cX8_luck 47 = .ok (.aload_n 0, 1) := by decide +kernel
theorem dX8_luck_48 : decode cX8_luck 48 = .ok (.getfield 28, 3) := by decide +kernel
theorem dX8_luck_51 : decode cX8_luck 51 = .ok (.iload_n 3, 1) := by decide +kernel
theorem dX8_luck_52 : decode cX8_luck 52 = .ok (.invokevirtual 173, 3) := by decide +kernel
theorem dX8_luck_55 : decode cX8_luck 55 = .ok (.aload_n 0, 1) := by decide +kernel
theorem dX8_luck_56 : decode cX8_luck 56 = .ok (.iload_n 2, 1) := by decide +kernel
theorem dX8_luck_57 : decode cX8_luck 57 = .ok (.invokevirtual 220, 3) := by decide +kernel
theorem dX8_luck_60 : decode cX8_luck 60 = .ok (.istore 6, 2) := by decide +kernel
theorem dX8_luck_62 : decode cX8_luck 62 = .ok (.aload_n 0, 1) := by decide +kernel
theorem dX8_luck_63 : decode cX8_luck 63 = .ok (.getfield 55, 3) := by decide +kernel
theorem dX8_luck_66 : decode cX8_luck 66 = .ok (.iload_n 1, 1) := by decide +kernel
theorem dX8_luck_67 : decode cX8_luck 67 = .ok (.iload 6, 2) := by decide +kernel
theorem dX8_luck_69 : decode cX8_luck 69 = .ok (.invokevirtual 223, 3) := by decide +kernel
theorem dX8_luck_72 : decode cX8_luck 72 = .ok (.lconst 0, 1) := by decide +kernel
theorem dX8_luck_73 : decode cX8_luck 73 = .ok (.lstore 7, 2) := by decide +kernel
theorem dX8_luck_75 : decode cX8_luck 75 = .ok (.iconst 0, 1) := by decide +kernel
theorem dX8_luck_76 : decode cX8_luck 76 = .ok (.istore 9, 2) := by decide +kernel
theorem dX8_luck_78 : decode cX8_luck 78 = .ok (.iload 9, 2) := by decide +kernel
theorem dX8_luck_80 : decode cX8_luck 80 = .ok (.iload 6, 2) := by decide +kernel
theorem dX8_luck_82 : decode cX8_luck 82 = .ok (.if_icmp .gt 38, 3) := by decide +kernel
theorem dX8_luck_85 : decode cX8_luck 85 = .ok (.aload_n 0, 1) := by decide +kernel
theorem dX8_luck_86 : decode cX8_luck 86 = .ok (.getfield 24, 3) := by decide +kernel
theorem dX8_luck_89 : decode cX8_luck 89 = .ok (.iload_n 2, 1) := by decide +kernel
theorem dX8_luck_90 : decode cX8_luck 90 = .ok (.iload 9, 2) := by decide +kernel
theorem dX8_luck_92 : decode cX8_luck 92 = .ok (.invokevirtual 226, 3) := by decide +kernel
theorem dX8_luck_95 : decode cX8_luck 95 = .ok (.iload 4, 2) := by decide +kernel
theorem dX8_luck_97 : decode cX8_luck 97 = .ok (.if_icmp .lt 17, 3) := by decide +kernel
theorem dX8_luck_100 : decode cX8_luck 100 = .ok (.lload 7, 2) := by decide +kernel
theorem dX8_luck_102 : decode cX8_luck 102 = .ok (.aload_n 0, 1) := by decide +kernel
theorem dX8_luck_103 : decode cX8_luck 103 = .ok (.getfield 55, 3) := by decide +kernel
theorem dX8_luck_106 : decode cX8_luck 106 = .ok (.iload 9, 2) := by decide +kernel
theorem dX8_luck_108 : decode cX8_luck 108 = .ok (.invokevirtual 229, 3) := by decide +kernel
theorem dX8_luck_111 : decode cX8_luck 111 = .ok (.ladd, 1) := by decide +kernel
theorem dX8_luck_112 : decode cX8_luck 112 = .ok (.lstore 7, 2) := by decide +kernel
theorem dX8_luck_114 : decode cX8_luck 114 = .ok (.iinc 9 1, 3) := by decide +kernel
theorem dX8_luck_117 : decode cX8_luck 117 = .ok (.goto (-39), 3) := by decide +kernel
theorem dX8_luck_120 : decode cX8_luck 120 = .ok (.lload 7, 2) := by decide +kernel
theorem dX8_luck_122 : decode cX8_luck 122 = .ok (.iload 6, 2) := by decide +kernel
theorem dX8_luck_124 : decode cX8_luck 124 = .ok (.invokestatic 233, 3) := by decide +kernel
theorem dX8_luck_127 : decode cX8_luck 127 = .ok (.iload 5, 2) := by decide +kernel
theorem dX8_luck_129 : decode cX8_luck 129 = .ok (.invokestatic 236, 3) := by decide +kernel
theorem dX8_luck_132 : decode cX8_luck 132 = .ok (.lreturn, 1) := by decide +kernel
def f_X8_luck_L78 (Λ : List Ly) (d : Dt) (p0 : Nat) (v2 : Int32) (v4 : Int32) (v5 : Int32) (v6 : Int32) : Nat → Int64 → Int32 → Option (Int64 × Dt)
  | 0, _, _ => none
  | n + 1, v7, v9 => if v6 < v9 then (Option.bind (f_X8_powerOfTen v6) fun z17 => Option.bind (f_X8_partOfFraction v7 z17 v5) fun z18 => some (z18, d)) else (Option.bind (rf Λ p0 8 2) fun q19 => if clsAt Λ q19 = some 7 then (Option.bind (f_X7_skillBehindLessons Λ d q19 v2 v9) fun z21 => if z21 < v4 then (f_X8_luck_L78 Λ d p0 v2 v4 v5 v6 n v7 (v9 + (1 : Int32))) else (Option.bind (rf Λ p0 8 8) fun q23 => if clsAt Λ q23 = some 2 then (Option.bind (f_X2_of Λ d q23 v9) fun z25 => f_X8_luck_L78 Λ d p0 v2 v4 v5 v6 n (v7 + z25) (v9 + (1 : Int32))) else none)) else none)
def f_X8_luck (Λ : List Ly) (d : Dt) (p0 : Nat) (v1 : Int32) (v2 : Int32) (v3 : Int32) (v4 : Int32) (v5 : Int32) : Option (Int64 × Dt) := if (f_X8_isLuck v1 v3 v5) = 0 then (some ((-1 : Int64), d)) else (Option.bind (rf Λ p0 8 2) fun q2 => if clsAt Λ q2 = some 7 then (Option.bind (f_X7_has Λ d q2 v2) fun z4 => if z4 = 0 then (some ((-1 : Int64), d)) else (if (f_X8_within v4 (0 : Int32) (99 : Int32)) = 0 then (some ((-1 : Int64), d)) else (Option.bind (rf Λ p0 8 3) fun q7 => if clsAt Λ q7 = some 7 then (Option.bind (f_X7_copy Λ d q7 q2) fun z9 => Option.bind (f_X7_pass Λ z9 q7 v3) fun z10 => if clsAt Λ p0 = some 8 then (Option.bind (f_X8_lessonsInTrial Λ z10 p0 v2) fun z12 => Option.bind (rf Λ p0 8 8) fun q13 => if clsAt Λ q13 = some 2 then (Option.bind (f_X2_spread Λ z10 q13 v1 z12) fun z15 => f_X8_luck_L78 Λ z15 p0 v2 v4 v5 z12 FU (0 : Int64) (0 : Int32)) else none) else none) else none))) else none)
set_option maxHeartbeats 4000000 in
set_option maxRecDepth 100000 in
theorem w_X8_luck_L78 {p : Program} {l : Launch} {e : Env} {s : State} {m : MethodId} {args : Array Value} {below : List Frame} {meth : Method} {c : Code} {Γ : Cx} {Λ : List Ly} {z : Int64 × Dt} {d : Dt} (C0 : Ct Γ p s m args c cX8_luck 10 "SeasonBound") (hr : meth.sig.returnType = (some FieldType.long)) (hlocks : meth.locks = false) (p0 : Nat) (v2 : Int32) (v4 : Int32) (v5 : Int32) (v6 : Int32) :
    ∀ (n : Nat) (v7 : Int64) (v9 : Int32), f_X8_luck_L78 Λ d p0 v2 v4 v5 v6 n v7 v9 = some z → ∀ (H : Heap) (locs : List Loc) (ls : Array Slot), Hs Γ Λ d s H locs → lv_has ls 10 [(0, .ref (ad Γ.2.2.1 p0)), (2, .int v2), (4, .int v4), (5, .int v5), (6, .int v6), (7, .long v7), (9, .int v9)] → W p l e { frames := 5, cells := 0, slots := 0, locals := 107 } s m args below meth c H locs 0 0 (MQ below (QN Γ Λ z.2 (some (.long z.1))) args s 0 0 (AP Γ)) (F0 m 78 ls []) := by
  obtain ⟨hx, hb, hml, hown, hts, hK⟩ := id C0
  intro n
  induction n with
  | zero =>
    intro v7 v9 hf
    cases hf
  | succ n ih =>
    intro v7 v9 hf H locs ls hH hl
    unfold f_X8_luck_L78 at hf
    refine lv_iload hx hb dX8_luck_78 (lv_at hl 6 rfl) ?_
    refine lv_iload hx hb dX8_luck_80 (lv_at hl 4 rfl) ?_
    refine lv_icmp_gt (tgt := 120) hx hb dX8_luck_82 (by decide) (fun c16 => ?_) (fun c16 => ?_)
    · replace hf := it hf c16
      refine lv_lload hx hb dX8_luck_120 (lv_at hl 5 rfl) ?_
      refine lv_iload hx hb dX8_luck_122 (lv_at hl 4 rfl) ?_
      obtain ⟨z17, h17, hf⟩ := ob hf
      refine r_callSj (rest := [.long v7]) C0 hH (c_X8_powerOfTen Γ l Λ d v6 z17 h17) cs_X8_233 (by decide) rfl hl.1 rfl (Nat.le_of_ble_eq_true rfl) dX8_luck_124 (by decide) (fun H locs hH => ?_)
      refine lv_iload hx hb dX8_luck_127 (lv_at hl 3 rfl) ?_
      obtain ⟨z18, h18, hf⟩ := ob hf
      refine r_callSj (rest := []) C0 hH (c_X8_partOfFraction Γ l Λ d v7 z17 v5 z18 h18) cs_X8_236 (by decide) rfl hl.1 rfl (Nat.le_of_ble_eq_true rfl) dX8_luck_129 (by decide) (fun H locs hH => ?_)
      obtain rfl := Option.some.inj hf
      exact r_lret C0 hr hlocks hH dX8_luck_132
    · replace hf := ie hf c16
      refine lv_aload_n hx hb dX8_luck_85 rfl (lv_at hl 0 rfl) ?_
      obtain ⟨q19, g19, hf⟩ := ob hf
      refine r_getr C0 hH fl_X8_24 g19 dX8_luck_86 ?_
      refine lv_iload_n hx hb dX8_luck_89 rfl (lv_at hl 1 rfl) ?_
      refine lv_iload hx hb dX8_luck_90 (lv_at hl 6 rfl) ?_
      obtain ⟨g20, hf⟩ := gd hf
      obtain ⟨z21, h21, hf⟩ := ob hf
      refine r_callVi (rest := []) C0 hH (c_X7_skillBehindLessons Γ l Λ d q19 v2 v9 z21 h21) cv_X8_226 g20 (by decide) rfl hl.1 rfl (Nat.le_of_ble_eq_true rfl) dX8_luck_92 (by decide) (fun H locs hH => ?_)
      refine lv_iload hx hb dX8_luck_95 (lv_at hl 2 rfl) ?_
      refine lv_icmp_lt (tgt := 114) hx hb dX8_luck_97 (by decide) (fun c22 => ?_) (fun c22 => ?_)
      · replace hf := it hf c22
        refine lv_iinc (v := (v9 + (1 : Int32))) (lv' := [(9, .int (v9 + (1 : Int32))), (0, .ref (ad Γ.2.2.1 p0)), (2, .int v2), (4, .int v4), (5, .int v5), (6, .int v6), (7, .long v7)]) hx hb dX8_luck_114 hl (k := 6) rfl (congrArg (fun w => v9 + w) (by decide)) (by decide) rfl (fun ls hl => ?_)
        refine lv_goto (tgt := 78) hx hb dX8_luck_117 (by decide) ?_
        exact ih v7 (v9 + (1 : Int32)) hf _ _ _ hH (lv_sub hl [1, 2, 3, 4, 5, 6, 0] rfl)
      · replace hf := ie hf c22
        refine lv_lload hx hb dX8_luck_100 (lv_at hl 5 rfl) ?_
        refine lv_aload_n hx hb dX8_luck_102 rfl (lv_at hl 0 rfl) ?_
        obtain ⟨q23, g23, hf⟩ := ob hf
        refine r_getr C0 hH fl_X8_55 g23 dX8_luck_103 ?_
        refine lv_iload hx hb dX8_luck_106 (lv_at hl 6 rfl) ?_
        obtain ⟨g24, hf⟩ := gd hf
        obtain ⟨z25, h25, hf⟩ := ob hf
        refine r_callVj (rest := [.long v7]) C0 hH (c_X2_of Γ l Λ d q23 v9 z25 h25) cv_X8_229 g24 (by decide) rfl hl.1 rfl (Nat.le_of_ble_eq_true rfl) dX8_luck_108 (by decide) (fun H locs hH => ?_)
        refine lv_ladd hx hb dX8_luck_111 ?_
        refine lv_lstore (lv' := [(7, .long (v7 + z25)), (0, .ref (ad Γ.2.2.1 p0)), (2, .int v2), (4, .int v4), (5, .int v5), (6, .int v6), (9, .int v9)]) hx hb dX8_luck_112 hl (by decide) rfl (fun ls hl => ?_)
        refine lv_iinc (v := (v9 + (1 : Int32))) (lv' := [(9, .int (v9 + (1 : Int32))), (7, .long (v7 + z25)), (0, .ref (ad Γ.2.2.1 p0)), (2, .int v2), (4, .int v4), (5, .int v5), (6, .int v6)]) hx hb dX8_luck_114 hl (k := 6) rfl (congrArg (fun w => v9 + w) (by decide)) (by decide) rfl (fun ls hl => ?_)
        refine lv_goto (tgt := 78) hx hb dX8_luck_117 (by decide) ?_
        exact ih (v7 + z25) (v9 + (1 : Int32)) hf _ _ _ hH (lv_sub hl [2, 3, 4, 5, 6, 1, 0] rfl)
set_option maxHeartbeats 4000000 in
set_option maxRecDepth 100000 in
theorem c_X8_luck (Γ : Cx) (l : Launch) (Λ : List Ly) (d : Dt) (p0 : Nat) (v1 : Int32) (v2 : Int32) (v3 : Int32) (v4 : Int32) (v5 : Int32) (z : Int64 × Dt) (hf : f_X8_luck Λ d p0 v1 v2 v3 v4 v5 = some z) : Cn Γ l yX8_luck cX8_luck 10 (some FieldType.long) 5 107 [.ref (ad Γ.2.2.1 p0), .int v1, .int v2, .int v3, .int v4, .int v5] Λ d (some (.long z.1)) z.2 := by
  refine Cn.of (own := "SeasonBound") (by decide +kernel) rfl (Nat.le_of_ble_eq_true rfl) ?_
  intro p e s m below meth c C0 hr hlocks hH ls hl
  have hl : lv_has ls 10 [(0, .ref (ad Γ.2.2.1 p0)), (1, .int v1), (2, .int v2), (3, .int v3), (4, .int v4), (5, .int v5)] := hl
  obtain ⟨hx, hb, hml, hown, hts, hK⟩ := id C0
  unfold f_X8_luck at hf
  refine lv_iload_n hx hb dX8_luck_0 rfl (lv_at hl 1 rfl) ?_
  refine lv_iload_n hx hb dX8_luck_1 rfl (lv_at hl 3 rfl) ?_
  refine lv_iload hx hb dX8_luck_2 (lv_at hl 5 rfl) ?_
  refine r_callSi (rest := []) C0 hH (c_X8_isLuck Γ l Λ d v1 v3 v5) cs_X8_215 (by decide) rfl hl.1 rfl (Nat.le_of_ble_eq_true rfl) dX8_luck_4 (by decide) (fun H locs hH => ?_)
  refine lv_if_eq (tgt := 32) hx hb dX8_luck_7 (by decide) (fun c1 => ?_) (fun c1 => ?_)
  · replace hf := it hf c1
    refine lv_ldc2 hx hb hown (hts _ kl_X8_218) dX8_luck_32 ?_
    obtain rfl := Option.some.inj hf
    exact r_lret C0 hr hlocks hH dX8_luck_35
  · replace hf := ie hf c1
    refine lv_aload_n hx hb dX8_luck_10 rfl (lv_at hl 0 rfl) ?_
    obtain ⟨q2, g2, hf⟩ := ob hf
    refine r_getr C0 hH fl_X8_24 g2 dX8_luck_11 ?_
    refine lv_iload_n hx hb dX8_luck_14 rfl (lv_at hl 2 rfl) ?_
    obtain ⟨g3, hf⟩ := gd hf
    obtain ⟨z4, h4, hf⟩ := ob hf
    refine r_callVi (rest := []) C0 hH (c_X7_has Γ l Λ d q2 v2 z4 h4) cv_X8_108 g3 (by decide) rfl hl.1 rfl (Nat.le_of_ble_eq_true rfl) dX8_luck_15 (by decide) (fun H locs hH => ?_)
    refine lv_if_eq (tgt := 32) hx hb dX8_luck_18 (by decide) (fun c5 => ?_) (fun c5 => ?_)
    · replace hf := it hf c5
      refine lv_ldc2 hx hb hown (hts _ kl_X8_218) dX8_luck_32 ?_
      obtain rfl := Option.some.inj hf
      exact r_lret C0 hr hlocks hH dX8_luck_35
    · replace hf := ie hf c5
      refine lv_iload hx hb dX8_luck_21 (lv_at hl 4 rfl) ?_
      refine lv_iconst (v := (0 : Int32)) hx hb dX8_luck_23 (by decide) ?_
      refine lv_bipush (v := (99 : Int32)) hx hb dX8_luck_24 (by decide) ?_
      refine r_callSi (rest := []) C0 hH (c_X8_within Γ l Λ d v4 (0 : Int32) (99 : Int32)) cs_X8_60 (by decide) rfl hl.1 rfl (Nat.le_of_ble_eq_true rfl) dX8_luck_26 (by decide) (fun H locs hH => ?_)
      refine lv_if_ne (tgt := 36) hx hb dX8_luck_29 (by decide) (fun c6 => ?_) (fun c6 => ?_)
      · replace hf := ie hf c6
        refine lv_aload_n hx hb dX8_luck_36 rfl (lv_at hl 0 rfl) ?_
        obtain ⟨q7, g7, hf⟩ := ob hf
        refine r_getr C0 hH fl_X8_28 g7 dX8_luck_37 ?_
        refine lv_aload_n hx hb dX8_luck_40 rfl (lv_at hl 0 rfl) ?_
        refine r_getr C0 hH fl_X8_24 g2 dX8_luck_41 ?_
        obtain ⟨g8, hf⟩ := gd hf
        obtain ⟨z9, h9, hf⟩ := ob hf
        refine r_callVv (rest := []) C0 hH (c_X7_copy Γ l Λ d q7 q2 z9 h9) cv_X8_87 g8 (by decide) rfl hl.1 rfl (Nat.le_of_ble_eq_true rfl) dX8_luck_44 (by decide) (fun H locs hH => ?_)
        refine lv_aload_n hx hb dX8_luck_47 rfl (lv_at hl 0 rfl) ?_
        refine r_getr C0 hH fl_X8_28 g7 dX8_luck_48 ?_
        refine lv_iload_n hx hb dX8_luck_51 rfl (lv_at hl 3 rfl) ?_
        obtain ⟨z10, h10, hf⟩ := ob hf
        refine r_callVv (rest := []) C0 hH (c_X7_pass Γ l Λ z9 q7 v3 z10 h10) cv_X8_173 g8 (by decide) rfl hl.1 rfl (Nat.le_of_ble_eq_true rfl) dX8_luck_52 (by decide) (fun H locs hH => ?_)
        refine lv_aload_n hx hb dX8_luck_55 rfl (lv_at hl 0 rfl) ?_
        refine lv_iload_n hx hb dX8_luck_56 rfl (lv_at hl 2 rfl) ?_
        obtain ⟨g11, hf⟩ := gd hf
        obtain ⟨z12, h12, hf⟩ := ob hf
        refine r_callVi (rest := []) C0 hH (c_X8_lessonsInTrial Γ l Λ z10 p0 v2 z12 h12) cv_X8_220 g11 (by decide) rfl hl.1 rfl (Nat.le_of_ble_eq_true rfl) dX8_luck_57 (by decide) (fun H locs hH => ?_)
        refine lv_istore (lv' := [(6, .int z12), (0, .ref (ad Γ.2.2.1 p0)), (1, .int v1), (2, .int v2), (3, .int v3), (4, .int v4), (5, .int v5)]) hx hb dX8_luck_60 hl (by decide) rfl (fun ls hl => ?_)
        refine lv_aload_n hx hb dX8_luck_62 rfl (lv_at hl 1 rfl) ?_
        obtain ⟨q13, g13, hf⟩ := ob hf
        refine r_getr C0 hH fl_X8_55 g13 dX8_luck_63 ?_
        refine lv_iload_n hx hb dX8_luck_66 rfl (lv_at hl 2 rfl) ?_
        refine lv_iload hx hb dX8_luck_67 (lv_at hl 0 rfl) ?_
        obtain ⟨g14, hf⟩ := gd hf
        obtain ⟨z15, h15, hf⟩ := ob hf
        refine r_callVv (rest := []) C0 hH (c_X2_spread Γ l Λ z10 q13 v1 z12 z15 h15) cv_X8_223 g14 (by decide) rfl hl.1 rfl (Nat.le_of_ble_eq_true rfl) dX8_luck_69 (by decide) (fun H locs hH => ?_)
        refine lv_lconst (v := (0 : Int64)) hx hb dX8_luck_72 (by decide) ?_
        refine lv_lstore (lv' := [(7, .long (0 : Int64)), (6, .int z12), (0, .ref (ad Γ.2.2.1 p0)), (1, .int v1), (2, .int v2), (3, .int v3), (4, .int v4), (5, .int v5)]) hx hb dX8_luck_73 hl (by decide) rfl (fun ls hl => ?_)
        refine lv_iconst (v := (0 : Int32)) hx hb dX8_luck_75 (by decide) ?_
        refine lv_istore (lv' := [(9, .int (0 : Int32)), (7, .long (0 : Int64)), (6, .int z12), (0, .ref (ad Γ.2.2.1 p0)), (1, .int v1), (2, .int v2), (3, .int v3), (4, .int v4), (5, .int v5)]) hx hb dX8_luck_76 hl (by decide) rfl (fun ls hl => ?_)
        refine w_X8_luck_L78 C0 hr hlocks p0 v2 v4 v5 z12 FU (0 : Int64) (0 : Int32) hf _ _ _ hH (lv_sub hl [3, 5, 7, 8, 2, 1, 0] rfl)
      · replace hf := it hf c6
        refine lv_ldc2 hx hb hown (hts _ kl_X8_218) dX8_luck_32 ?_
        obtain rfl := Option.some.inj hf
        exact r_lret C0 hr hlocks hH dX8_luck_35
