theorem dX8_skillOverLuck_0 : decode cX8_skillOverLuck 0 = .ok (.aload_n 0, 1) := by decide +kernel
theorem dX8_skillOverLuck_1 : decode cX8_skillOverLuck 1 = .ok (.getfield 55, 3) := by decide +kernel
theorem dX8_skillOverLuck_4 : decode cX8_skillOverLuck 4 = .ok (.iload_n 1, 1) := by decide +kernel
theorem dX8_skillOverLuck_5 : decode cX8_skillOverLuck 5 = .ok (.iload_n 3, 1) := by decide +kernel
theorem dX8_skillOverLuck_6 : decode cX8_skillOverLuck 6 = .ok (.invokevirtual 223, 3) := by decide +kernel
theorem dX8_skillOverLuck_9 : decode cX8_skillOverLuck 9 = .ok (.lconst 0, 1) := by decide +kernel
theorem dX8_skillOverLuck_10 : decode cX8_skillOverLuck 10 = .ok (.lstore 4, 2) := by decide +kernel
theorem dX8_skillOverLuck_12 : decode cX8_skillOverLuck 12 = .ok (.iconst 0, 1) := by decide +kernel
theorem dX8_skillOverLuck_13 : decode cX8_skillOverLuck 13 = .ok (.istore 6, 2) := by decide +kernel
theorem dX8_skillOverLuck_15 : decode cX8_skillOverLuck 15 = .ok (.iload 6, 2) := by decide +kernel
theorem dX8_skillOverLuck_17 : decode cX8_skillOverLuck 17 = .ok (.iload_n 3, 1) := by decide +kernel
theorem dX8_skillOverLuck_18 : decode cX8_skillOverLuck 18 = .ok (.if_icmp .gt 35, 3) := by decide +kernel
theorem dX8_skillOverLuck_21 : decode cX8_skillOverLuck 21 = .ok (.lload 4, 2) := by decide +kernel
theorem dX8_skillOverLuck_23 : decode cX8_skillOverLuck 23 = .ok (.aload_n 0, 1) := by decide +kernel
theorem dX8_skillOverLuck_24 : decode cX8_skillOverLuck 24 = .ok (.getfield 55, 3) := by decide +kernel
theorem dX8_skillOverLuck_27 : decode cX8_skillOverLuck 27 = .ok (.iload 6, 2) := by decide +kernel
theorem dX8_skillOverLuck_29 : decode cX8_skillOverLuck 29 = .ok (.invokevirtual 229, 3) := by decide +kernel
theorem dX8_skillOverLuck_32 : decode cX8_skillOverLuck 32 = .ok (.aload_n 0, 1) := by decide +kernel
theorem dX8_skillOverLuck_33 : decode cX8_skillOverLuck 33 = .ok (.getfield 24, 3) := by decide +kernel
theorem dX8_skillOverLuck_36 : decode cX8_skillOverLuck 36 = .ok (.iload_n 2, 1) := by decide +kernel
theorem dX8_skillOverLuck_37 : decode cX8_skillOverLuck 37 = .ok (.iload 6, 2) := by decide +kernel
theorem dX8_skillOverLuck_39 : decode cX8_skillOverLuck 39 = .ok (.invokevirtual 226, 3) := by decide +kernel
theorem dX8_skillOverLuck_42 : decode cX8_skillOverLuck 42 = .ok (.i2l, 1) := by decide +kernel
theorem dX8_skillOverLuck_43 : decode cX8_skillOverLuck 43 = .ok (.lmul, 1) := by decide +kernel
theorem dX8_skillOverLuck_44 : decode cX8_skillOverLuck 44 = .ok (.ladd, 1) := by decide +kernel
theorem dX8_skillOverLuck_45 : decode cX8_skillOverLuck 45 = .ok (.lstore 4, 2) := by decide +kernel
theorem dX8_skillOverLuck_47 : decode cX8_skillOverLuck 47 = .ok (.iinc 6 1, 3) := by decide +kernel
theorem dX8_skillOverLuck_50 : decode cX8_skillOverLuck 50 = .ok (.goto (-35), 3) := by decide +kernel
theorem dX8_skillOverLuck_53 : decode cX8_skillOverLuck 53 = .ok (.lload 4, 2) := by decide +kernel
theorem dX8_skillOverLuck_55 : decode cX8_skillOverLuck 55 = .ok (.lreturn, 1) := by decide +kernel
def f_X8_skillOverLuck_L15 (Λ : List Ly) (d : Dt) (p0 : Nat) (v2 : Int32) (v3 : Int32) : Nat → Int64 → Int32 → Option (Int64 × Dt)
  | 0, _, _ => none
  | n + 1, v4, v6 => if v3 < v6 then (some (v4, d)) else (Option.bind (rf Λ p0 8 8) fun q5 => if clsAt Λ q5 = some 2 then (Option.bind (f_X2_of Λ d q5 v6) fun z7 => Option.bind (rf Λ p0 8 2) fun q8 => if clsAt Λ q8 = some 7 then (Option.bind (f_X7_skillBehindLessons Λ d q8 v2 v6) fun z10 => f_X8_skillOverLuck_L15 Λ d p0 v2 v3 n (v4 + (z7 * (z10).toInt64)) (v6 + (1 : Int32))) else none) else none)
def f_X8_skillOverLuck (Λ : List Ly) (d : Dt) (p0 : Nat) (v1 : Int32) (v2 : Int32) (v3 : Int32) : Option (Int64 × Dt) := Option.bind (rf Λ p0 8 8) fun q1 => if clsAt Λ q1 = some 2 then (Option.bind (f_X2_spread Λ d q1 v1 v3) fun z3 => f_X8_skillOverLuck_L15 Λ z3 p0 v2 v3 FU (0 : Int64) (0 : Int32)) else none
set_option maxHeartbeats 4000000 in
set_option maxRecDepth 100000 in
theorem w_X8_skillOverLuck_L15 {p : Program} {l : Launch} {e : Env} {s : State} {m : MethodId} {args : Array Value} {below : List Frame} {meth : Method} {c : Code} {Γ : Cx} {Λ : List Ly} {z : Int64 × Dt} {d : Dt} (C0 : Ct Γ p s m args c cX8_skillOverLuck 7 "SeasonBound") (hr : meth.sig.returnType = (some FieldType.long)) (hlocks : meth.locks = false) (p0 : Nat) (v2 : Int32) (v3 : Int32) :
    ∀ (n : Nat) (v4 : Int64) (v6 : Int32), f_X8_skillOverLuck_L15 Λ d p0 v2 v3 n v4 v6 = some z → ∀ (H : Heap) (locs : List Loc) (ls : Array Slot), Hs Γ Λ d s H locs → lv_has ls 7 [(0, .ref (ad Γ.2.2.1 p0)), (2, .int v2), (3, .int v3), (4, .long v4), (6, .int v6)] → W p l e { frames := 3, cells := 0, slots := 0, locals := 67 } s m args below meth c H locs 0 0 (MQ below (QN Γ Λ z.2 (some (.long z.1))) args s 0 0 (AP Γ)) (F0 m 15 ls []) := by
  obtain ⟨hx, hb, hml, hown, hts, hK⟩ := id C0
  intro n
  induction n with
  | zero =>
    intro v4 v6 hf
    cases hf
  | succ n ih =>
    intro v4 v6 hf H locs ls hH hl
    unfold f_X8_skillOverLuck_L15 at hf
    refine lv_iload hx hb dX8_skillOverLuck_15 (lv_at hl 4 rfl) ?_
    refine lv_iload_n hx hb dX8_skillOverLuck_17 rfl (lv_at hl 2 rfl) ?_
    refine lv_icmp_gt (tgt := 53) hx hb dX8_skillOverLuck_18 (by decide) (fun c4 => ?_) (fun c4 => ?_)
    · replace hf := it hf c4
      refine lv_lload hx hb dX8_skillOverLuck_53 (lv_at hl 3 rfl) ?_
      obtain rfl := Option.some.inj hf
      exact r_lret C0 hr hlocks hH dX8_skillOverLuck_55
    · replace hf := ie hf c4
      refine lv_lload hx hb dX8_skillOverLuck_21 (lv_at hl 3 rfl) ?_
      refine lv_aload_n hx hb dX8_skillOverLuck_23 rfl (lv_at hl 0 rfl) ?_
      obtain ⟨q5, g5, hf⟩ := ob hf
      refine r_getr C0 hH fl_X8_55 g5 dX8_skillOverLuck_24 ?_
      refine lv_iload hx hb dX8_skillOverLuck_27 (lv_at hl 4 rfl) ?_
      obtain ⟨g6, hf⟩ := gd hf
      obtain ⟨z7, h7, hf⟩ := ob hf
      refine r_callVj (rest := [.long v4]) C0 hH (c_X2_of Γ l Λ d q5 v6 z7 h7) cv_X8_229 g6 (by decide) rfl hl.1 rfl (Nat.le_of_ble_eq_true rfl) dX8_skillOverLuck_29 (by decide) (fun H locs hH => ?_)
      refine lv_aload_n hx hb dX8_skillOverLuck_32 rfl (lv_at hl 0 rfl) ?_
      obtain ⟨q8, g8, hf⟩ := ob hf
      refine r_getr C0 hH fl_X8_24 g8 dX8_skillOverLuck_33 ?_
      refine lv_iload_n hx hb dX8_skillOverLuck_36 rfl (lv_at hl 1 rfl) ?_
      refine lv_iload hx hb dX8_skillOverLuck_37 (lv_at hl 4 rfl) ?_
      obtain ⟨g9, hf⟩ := gd hf
      obtain ⟨z10, h10, hf⟩ := ob hf
      refine r_callVi (rest := [.long z7, .long v4]) C0 hH (c_X7_skillBehindLessons Γ l Λ d q8 v2 v6 z10 h10) cv_X8_226 g9 (by decide) rfl hl.1 rfl (Nat.le_of_ble_eq_true rfl) dX8_skillOverLuck_39 (by decide) (fun H locs hH => ?_)
      refine lv_i2l (v := (z10).toInt64) hx hb dX8_skillOverLuck_42 rfl ?_
      refine lv_lmul hx hb dX8_skillOverLuck_43 ?_
      refine lv_ladd hx hb dX8_skillOverLuck_44 ?_
      refine lv_lstore (lv' := [(4, .long (v4 + (z7 * (z10).toInt64))), (0, .ref (ad Γ.2.2.1 p0)), (2, .int v2), (3, .int v3), (6, .int v6)]) hx hb dX8_skillOverLuck_45 hl (by decide) rfl (fun ls hl => ?_)
      refine lv_iinc (v := (v6 + (1 : Int32))) (lv' := [(6, .int (v6 + (1 : Int32))), (4, .long (v4 + (z7 * (z10).toInt64))), (0, .ref (ad Γ.2.2.1 p0)), (2, .int v2), (3, .int v3)]) hx hb dX8_skillOverLuck_47 hl (k := 4) rfl (congrArg (fun w => v6 + w) (by decide)) (by decide) rfl (fun ls hl => ?_)
      refine lv_goto (tgt := 15) hx hb dX8_skillOverLuck_50 (by decide) ?_
      exact ih (v4 + (z7 * (z10).toInt64)) (v6 + (1 : Int32)) hf _ _ _ hH (lv_sub hl [2, 3, 4, 1, 0] rfl)
set_option maxHeartbeats 4000000 in
set_option maxRecDepth 100000 in
theorem c_X8_skillOverLuck (Γ : Cx) (l : Launch) (Λ : List Ly) (d : Dt) (p0 : Nat) (v1 : Int32) (v2 : Int32) (v3 : Int32) (z : Int64 × Dt) (hf : f_X8_skillOverLuck Λ d p0 v1 v2 v3 = some z) : Cn Γ l yX8_skillOverLuck cX8_skillOverLuck 7 (some FieldType.long) 3 67 [.ref (ad Γ.2.2.1 p0), .int v1, .int v2, .int v3] Λ d (some (.long z.1)) z.2 := by
  refine Cn.of (own := "SeasonBound") (by decide +kernel) rfl (Nat.le_of_ble_eq_true rfl) ?_
  intro p e s m below meth c C0 hr hlocks hH ls hl
  have hl : lv_has ls 7 [(0, .ref (ad Γ.2.2.1 p0)), (1, .int v1), (2, .int v2), (3, .int v3)] := hl
  obtain ⟨hx, hb, hml, hown, hts, hK⟩ := id C0
  unfold f_X8_skillOverLuck at hf
  refine lv_aload_n hx hb dX8_skillOverLuck_0 rfl (lv_at hl 0 rfl) ?_
  obtain ⟨q1, g1, hf⟩ := ob hf
  refine r_getr C0 hH fl_X8_55 g1 dX8_skillOverLuck_1 ?_
  refine lv_iload_n hx hb dX8_skillOverLuck_4 rfl (lv_at hl 1 rfl) ?_
  refine lv_iload_n hx hb dX8_skillOverLuck_5 rfl (lv_at hl 3 rfl) ?_
  obtain ⟨g2, hf⟩ := gd hf
  obtain ⟨z3, h3, hf⟩ := ob hf
  refine r_callVv (rest := []) C0 hH (c_X2_spread Γ l Λ d q1 v1 v3 z3 h3) cv_X8_223 g2 (by decide) rfl hl.1 rfl (Nat.le_of_ble_eq_true rfl) dX8_skillOverLuck_6 (by decide) (fun H locs hH => ?_)
  refine lv_lconst (v := (0 : Int64)) hx hb dX8_skillOverLuck_9 (by decide) ?_
  refine lv_lstore (lv' := [(4, .long (0 : Int64)), (0, .ref (ad Γ.2.2.1 p0)), (1, .int v1), (2, .int v2), (3, .int v3)]) hx hb dX8_skillOverLuck_10 hl (by decide) rfl (fun ls hl => ?_)
  refine lv_iconst (v := (0 : Int32)) hx hb dX8_skillOverLuck_12 (by decide) ?_
  refine lv_istore (lv' := [(6, .int (0 : Int32)), (4, .long (0 : Int64)), (0, .ref (ad Γ.2.2.1 p0)), (1, .int v1), (2, .int v2), (3, .int v3)]) hx hb dX8_skillOverLuck_13 hl (by decide) rfl (fun ls hl => ?_)
  refine w_X8_skillOverLuck_L15 C0 hr hlocks p0 v2 v3 FU (0 : Int64) (0 : Int32) hf _ _ _ hH (lv_sub hl [2, 4, 5, 1, 0] rfl)
theorem dX8_mean_0 : decode cX8_mean 0 = .ok (.iload_n 1, 1) := by decide +kernel
theorem dX8_mean_1 : decode cX8_mean 1 = .ok (.iload_n 2, 1) := by decide +kernel
theorem dX8_mean_2 : decode cX8_mean 2 = .ok (.iload_n 3, 1) := by decide +kernel
theorem dX8_mean_3 : decode cX8_mean 3 = .ok (.invokestatic 215, 3) := by decide +kernel
theorem dX8_mean_6 : decode cX8_mean 6 = .ok (.ifCond .ne 7, 3) := by decide +kernel
theorem dX8_mean_9 : decode cX8_mean 9 = .ok (.ldc2_w 218, 3) := by decide +kernel
theorem dX8_mean_12 : decode cX8_mean 12 = .ok (.lreturn, 1) := by decide +kernel
theorem dX8_mean_13 : decode cX8_mean 13 = .ok (.aload_n 0, 1) := by decide +kernel
theorem dX8_mean_14 : decode cX8_mean 14 = .ok (.getfield 28, 3) := by decide +kernel
theorem dX8_mean_17 : decode cX8_mean 17 = .ok (.aload_n 0, 1) := by decide +kernel
theorem dX8_mean_18 : decode cX8_mean 18 = .ok (.getfield 24, 3) := by decide +kernel
theorem dX8_mean_21 : decode cX8_mean 21 = .ok (.invokevirtual 87, 3) := by decide +kernel
theorem dX8_mean_24 : decode cX8_mean 24 = .ok (.aload_n 0, 1) := by decide +kernel
theorem dX8_mean_25 : decode cX8_mean 25 = .ok (.getfield 28, 3) := by decide +kernel
theorem dX8_mean_28 : decode cX8_mean 28 = .ok (.iload_n 2, 1) := by decide +kernel
theorem dX8_mean_29 : decode cX8_mean 29 = .ok (.invokevirtual 173, 3) := by decide +kernel
theorem dX8_mean_32 : decode cX8_mean 32 = .ok (.lconst 0, 1) := by decide +kernel
theorem dX8_mean_33 : decode cX8_mean 33 = .ok (.lstore 4, 2) := by decide +kernel
theorem dX8_mean_35 : decode cX8_mean 35 = .ok (.iconst 0, 1) := by decide +kernel
theorem dX8_mean_36 : decode cX8_mean 36 = .ok (.istore 6, 2) := by decide +kernel
theorem dX8_mean_38 : decode cX8_mean 38 = .ok (.iload 6, 2) := by decide +kernel
theorem dX8_mean_40 : decode cX8_mean 40 = .ok (.aload_n 0, 1) := by decide +kernel
theorem dX8_mean_41 : decode cX8_mean 41 = .ok (.getfield 24, 3) := by decide +kernel
theorem dX8_mean_44 : decode cX8_mean 44 = .ok (.getfield 91, 3) := by decide +kernel
theorem dX8_mean_47 : decode cX8_mean 47 = .ok (.if_icmp .ge 39, 3) := by decide +kernel
theorem dX8_mean_50 : decode cX8_mean 50 = .ok (.aload_n 0, 1) := by decide +kernel
theorem dX8_mean_51 : decode cX8_mean 51 = .ok (.iload 6, 2) := by decide +kernel
theorem dX8_mean_53 : decode cX8_mean 53 = .ok (.invokevirtual 220, 3) := by decide +kernel
theorem dX8_mean_56 : decode cX8_mean 56 = .ok (.istore 7, 2) := by decide +kernel
theorem dX8_mean_58 : decode cX8_mean 58 = .ok (.lload 4, 2) := by decide +kernel
theorem dX8_mean_60 : decode cX8_mean 60 = .ok (.aload_n 0, 1) := by decide +kernel
theorem dX8_mean_61 : decode cX8_mean 61 = .ok (.iload_n 1, 1) := by decide +kernel
theorem dX8_mean_62 : decode cX8_mean 62 = .ok (.iload 6, 2) := by decide +kernel
theorem dX8_mean_64 : decode cX8_mean 64 = .ok (.iload 7, 2) := by decide +kernel
theorem dX8_mean_66 : decode cX8_mean 66 = .ok (.invokevirtual 240, 3) := by decide +kernel
theorem dX8_mean_69 : decode cX8_mean 69 = .ok (.iload_n 2, 1) := by decide +kernel
theorem dX8_mean_70 : decode cX8_mean 70 = .ok (.iload 7, 2) := by decide +kernel
theorem dX8_mean_72 : decode cX8_mean 72 = .ok (.isub, 1) := by decide +kernel
theorem dX8_mean_73 : decode cX8_mean 73 = .ok (.invokestatic 233, 3) := by decide +kernel
theorem dX8_mean_76 : decode cX8_mean 76 = .ok (.lmul, 1) := by decide +kernel
theorem dX8_mean_77 : decode cX8_mean 77 = .ok (.ladd, 1) := by decide +kernel
theorem dX8_mean_78 : decode cX8_mean 78 = .ok (.lstore 4, 2) := by decide +kernel
theorem dX8_mean_80 : decode cX8_mean 80 = .ok (.iinc 6 1, 3) := by decide +kernel
theorem dX8_mean_83 : decode cX8_mean 83 = .ok (.goto (-45), 3) := by decide +kernel
theorem dX8_mean_86 : decode cX8_mean 86 = .ok (.lload 4, 2) := by decide +kernel
theorem dX8_mean_88 : decode cX8_mean 88 = .ok (.iload_n 2, 1) := by decide +kernel
theorem dX8_mean_89 : decode cX8_mean 89 = .ok (.invokestatic 233, 3) := by decide +kernel
theorem dX8_mean_92 : decode cX8_mean 92 = .ok (.iload_n 3, 1) := by decide +kernel
theorem dX8_mean_93 : decode cX8_mean 93 = .ok (.invokestatic 236, 3) := by decide +kernel
theorem dX8_mean_96 : decode cX8_mean 96 = .ok (.lreturn, 1) := by decide +kernel
def f_X8_mean_L38 (Λ : List Ly) (p0 : Nat) (v1 : Int32) (v2 : Int32) (v3 : Int32) : Nat → Int64 → Int32 → Dt → Option (Int64 × Dt)
  | 0, _, _, _ => none
  | n + 1, v4, v6, d => Option.bind (rf Λ p0 8 2) fun q7 => if clsAt Λ q7 = some 7 then (if (d.1 q7 2) ≤ v6 then (Option.bind (f_X8_powerOfTen v2) fun z10 => Option.bind (f_X8_partOfFraction v4 z10 v3) fun z11 => some (z11, d)) else (if clsAt Λ p0 = some 8 then (Option.bind (f_X8_lessonsInTrial Λ d p0 v6) fun z13 => Option.bind (f_X8_skillOverLuck Λ d p0 v1 v6 z13) fun z14 => Option.bind (f_X8_powerOfTen (v2 - z13)) fun z15 => f_X8_mean_L38 Λ p0 v1 v2 v3 n (v4 + (z14.1 * z15)) (v6 + (1 : Int32)) z14.2) else none)) else none
def f_X8_mean (Λ : List Ly) (d : Dt) (p0 : Nat) (v1 : Int32) (v2 : Int32) (v3 : Int32) : Option (Int64 × Dt) := if (f_X8_isLuck v1 v2 v3) = 0 then (some ((-1 : Int64), d)) else (Option.bind (rf Λ p0 8 3) fun q2 => Option.bind (rf Λ p0 8 2) fun q3 => if clsAt Λ q2 = some 7 then (Option.bind (f_X7_copy Λ d q2 q3) fun z5 => Option.bind (f_X7_pass Λ z5 q2 v2) fun z6 => f_X8_mean_L38 Λ p0 v1 v2 v3 FU (0 : Int64) (0 : Int32) z6) else none)
set_option maxHeartbeats 4000000 in
set_option maxRecDepth 100000 in
theorem w_X8_mean_L38 {p : Program} {l : Launch} {e : Env} {s : State} {m : MethodId} {args : Array Value} {below : List Frame} {meth : Method} {c : Code} {Γ : Cx} {Λ : List Ly} {z : Int64 × Dt} (C0 : Ct Γ p s m args c cX8_mean 8 "SeasonBound") (hr : meth.sig.returnType = (some FieldType.long)) (hlocks : meth.locks = false) (p0 : Nat) (v1 : Int32) (v2 : Int32) (v3 : Int32) :
    ∀ (n : Nat) (v4 : Int64) (v6 : Int32) (d : Dt), f_X8_mean_L38 Λ p0 v1 v2 v3 n v4 v6 d = some z → ∀ (H : Heap) (locs : List Loc) (ls : Array Slot), Hs Γ Λ d s H locs → lv_has ls 8 [(0, .ref (ad Γ.2.2.1 p0)), (1, .int v1), (2, .int v2), (3, .int v3), (4, .long v4), (6, .int v6)] → W p l e { frames := 5, cells := 0, slots := 0, locals := 107 } s m args below meth c H locs 0 0 (MQ below (QN Γ Λ z.2 (some (.long z.1))) args s 0 0 (AP Γ)) (F0 m 38 ls []) := by
  obtain ⟨hx, hb, hml, hown, hts, hK⟩ := id C0
  intro n
  induction n with
  | zero =>
    intro v4 v6 d hf
    cases hf
  | succ n ih =>
    intro v4 v6 d hf H locs ls hH hl
    unfold f_X8_mean_L38 at hf
    refine lv_iload hx hb dX8_mean_38 (lv_at hl 5 rfl) ?_
    refine lv_aload_n hx hb dX8_mean_40 rfl (lv_at hl 0 rfl) ?_
    obtain ⟨q7, g7, hf⟩ := ob hf
    refine r_getr C0 hH fl_X8_24 g7 dX8_mean_41 ?_
    obtain ⟨g8, hf⟩ := gd hf
    refine r_geti C0 hH fl_X8_91 g8 rfl dX8_mean_44 ?_
    refine lv_icmp_ge (tgt := 86) hx hb dX8_mean_47 (by decide) (fun c9 => ?_) (fun c9 => ?_)
    · replace hf := it hf c9
      refine lv_lload hx hb dX8_mean_86 (lv_at hl 4 rfl) ?_
      refine lv_iload_n hx hb dX8_mean_88 rfl (lv_at hl 2 rfl) ?_
      obtain ⟨z10, h10, hf⟩ := ob hf
      refine r_callSj (rest := [.long v4]) C0 hH (c_X8_powerOfTen Γ l Λ d v2 z10 h10) cs_X8_233 (by decide) rfl hl.1 rfl (Nat.le_of_ble_eq_true rfl) dX8_mean_89 (by decide) (fun H locs hH => ?_)
      refine lv_iload_n hx hb dX8_mean_92 rfl (lv_at hl 3 rfl) ?_
      obtain ⟨z11, h11, hf⟩ := ob hf
      refine r_callSj (rest := []) C0 hH (c_X8_partOfFraction Γ l Λ d v4 z10 v3 z11 h11) cs_X8_236 (by decide) rfl hl.1 rfl (Nat.le_of_ble_eq_true rfl) dX8_mean_93 (by decide) (fun H locs hH => ?_)
      obtain rfl := Option.some.inj hf
      exact r_lret C0 hr hlocks hH dX8_mean_96
    · replace hf := ie hf c9
      refine lv_aload_n hx hb dX8_mean_50 rfl (lv_at hl 0 rfl) ?_
      refine lv_iload hx hb dX8_mean_51 (lv_at hl 5 rfl) ?_
      obtain ⟨g12, hf⟩ := gd hf
      obtain ⟨z13, h13, hf⟩ := ob hf
      refine r_callVi (rest := []) C0 hH (c_X8_lessonsInTrial Γ l Λ d p0 v6 z13 h13) cv_X8_220 g12 (by decide) rfl hl.1 rfl (Nat.le_of_ble_eq_true rfl) dX8_mean_53 (by decide) (fun H locs hH => ?_)
      refine lv_istore (lv' := [(7, .int z13), (0, .ref (ad Γ.2.2.1 p0)), (1, .int v1), (2, .int v2), (3, .int v3), (4, .long v4), (6, .int v6)]) hx hb dX8_mean_56 hl (by decide) rfl (fun ls hl => ?_)
      refine lv_lload hx hb dX8_mean_58 (lv_at hl 5 rfl) ?_
      refine lv_aload_n hx hb dX8_mean_60 rfl (lv_at hl 1 rfl) ?_
      refine lv_iload_n hx hb dX8_mean_61 rfl (lv_at hl 2 rfl) ?_
      refine lv_iload hx hb dX8_mean_62 (lv_at hl 6 rfl) ?_
      refine lv_iload hx hb dX8_mean_64 (lv_at hl 0 rfl) ?_
      obtain ⟨z14, h14, hf⟩ := ob hf
      refine r_callVj (rest := [.long v4]) C0 hH (c_X8_skillOverLuck Γ l Λ d p0 v1 v6 z13 z14 h14) cv_X8_240 g12 (by decide) rfl hl.1 rfl (Nat.le_of_ble_eq_true rfl) dX8_mean_66 (by decide) (fun H locs hH => ?_)
      refine lv_iload_n hx hb dX8_mean_69 rfl (lv_at hl 3 rfl) ?_
      refine lv_iload hx hb dX8_mean_70 (lv_at hl 0 rfl) ?_
      refine lv_isub hx hb dX8_mean_72 ?_
      obtain ⟨z15, h15, hf⟩ := ob hf
      refine r_callSj (rest := [.long z14.1, .long v4]) C0 hH (c_X8_powerOfTen Γ l Λ z14.2 (v2 - z13) z15 h15) cs_X8_233 (by decide) rfl hl.1 rfl (Nat.le_of_ble_eq_true rfl) dX8_mean_73 (by decide) (fun H locs hH => ?_)
      refine lv_lmul hx hb dX8_mean_76 ?_
      refine lv_ladd hx hb dX8_mean_77 ?_
      refine lv_lstore (lv' := [(4, .long (v4 + (z14.1 * z15))), (7, .int z13), (0, .ref (ad Γ.2.2.1 p0)), (1, .int v1), (2, .int v2), (3, .int v3), (6, .int v6)]) hx hb dX8_mean_78 hl (by decide) rfl (fun ls hl => ?_)
      refine lv_iinc (v := (v6 + (1 : Int32))) (lv' := [(6, .int (v6 + (1 : Int32))), (4, .long (v4 + (z14.1 * z15))), (7, .int z13), (0, .ref (ad Γ.2.2.1 p0)), (1, .int v1), (2, .int v2), (3, .int v3)]) hx hb dX8_mean_80 hl (k := 6) rfl (congrArg (fun w => v6 + w) (by decide)) (by decide) rfl (fun ls hl => ?_)
      refine lv_goto (tgt := 38) hx hb dX8_mean_83 (by decide) ?_
      exact ih (v4 + (z14.1 * z15)) (v6 + (1 : Int32)) z14.2 hf _ _ _ hH (lv_sub hl [3, 4, 5, 6, 1, 0] rfl)
set_option maxHeartbeats 4000000 in
set_option maxRecDepth 100000 in
theorem c_X8_mean (Γ : Cx) (l : Launch) (Λ : List Ly) (d : Dt) (p0 : Nat) (v1 : Int32) (v2 : Int32) (v3 : Int32) (z : Int64 × Dt) (hf : f_X8_mean Λ d p0 v1 v2 v3 = some z) : Cn Γ l yX8_mean cX8_mean 8 (some FieldType.long) 5 107 [.ref (ad Γ.2.2.1 p0), .int v1, .int v2, .int v3] Λ d (some (.long z.1)) z.2 := by
  refine Cn.of (own := "SeasonBound") (by decide +kernel) rfl (Nat.le_of_ble_eq_true rfl) ?_
  intro p e s m below meth c C0 hr hlocks hH ls hl
  have hl : lv_has ls 8 [(0, .ref (ad Γ.2.2.1 p0)), (1, .int v1), (2, .int v2), (3, .int v3)] := hl
  obtain ⟨hx, hb, hml, hown, hts, hK⟩ := id C0
  unfold f_X8_mean at hf
  refine lv_iload_n hx hb dX8_mean_0 rfl (lv_at hl 1 rfl) ?_
  refine lv_iload_n hx hb dX8_mean_1 rfl (lv_at hl 2 rfl) ?_
  refine lv_iload_n hx hb dX8_mean_2 rfl (lv_at hl 3 rfl) ?_
  refine r_callSi (rest := []) C0 hH (c_X8_isLuck Γ l Λ d v1 v2 v3) cs_X8_215 (by decide) rfl hl.1 rfl (Nat.le_of_ble_eq_true rfl) dX8_mean_3 (by decide) (fun H locs hH => ?_)
  refine lv_if_ne (tgt := 13) hx hb dX8_mean_6 (by decide) (fun c1 => ?_) (fun c1 => ?_)
  · replace hf := ie hf c1
    refine lv_aload_n hx hb dX8_mean_13 rfl (lv_at hl 0 rfl) ?_
    obtain ⟨q2, g2, hf⟩ := ob hf
    refine r_getr C0 hH fl_X8_28 g2 dX8_mean_14 ?_
    refine lv_aload_n hx hb dX8_mean_17 rfl (lv_at hl 0 rfl) ?_
    obtain ⟨q3, g3, hf⟩ := ob hf
    refine r_getr C0 hH fl_X8_24 g3 dX8_mean_18 ?_
    obtain ⟨g4, hf⟩ := gd hf
    obtain ⟨z5, h5, hf⟩ := ob hf
    refine r_callVv (rest := []) C0 hH (c_X7_copy Γ l Λ d q2 q3 z5 h5) cv_X8_87 g4 (by decide) rfl hl.1 rfl (Nat.le_of_ble_eq_true rfl) dX8_mean_21 (by decide) (fun H locs hH => ?_)
    refine lv_aload_n hx hb dX8_mean_24 rfl (lv_at hl 0 rfl) ?_
    refine r_getr C0 hH fl_X8_28 g2 dX8_mean_25 ?_
    refine lv_iload_n hx hb dX8_mean_28 rfl (lv_at hl 2 rfl) ?_
    obtain ⟨z6, h6, hf⟩ := ob hf
    refine r_callVv (rest := []) C0 hH (c_X7_pass Γ l Λ z5 q2 v2 z6 h6) cv_X8_173 g4 (by decide) rfl hl.1 rfl (Nat.le_of_ble_eq_true rfl) dX8_mean_29 (by decide) (fun H locs hH => ?_)
    refine lv_lconst (v := (0 : Int64)) hx hb dX8_mean_32 (by decide) ?_
    refine lv_lstore (lv' := [(4, .long (0 : Int64)), (0, .ref (ad Γ.2.2.1 p0)), (1, .int v1), (2, .int v2), (3, .int v3)]) hx hb dX8_mean_33 hl (by decide) rfl (fun ls hl => ?_)
    refine lv_iconst (v := (0 : Int32)) hx hb dX8_mean_35 (by decide) ?_
    refine lv_istore (lv' := [(6, .int (0 : Int32)), (4, .long (0 : Int64)), (0, .ref (ad Γ.2.2.1 p0)), (1, .int v1), (2, .int v2), (3, .int v3)]) hx hb dX8_mean_36 hl (by decide) rfl (fun ls hl => ?_)
    refine w_X8_mean_L38 C0 hr hlocks p0 v1 v2 v3 FU (0 : Int64) (0 : Int32) z6 hf _ _ _ hH (lv_sub hl [2, 3, 4, 5, 1, 0] rfl)
  · replace hf := it hf c1
    refine lv_ldc2 hx hb hown (hts _ kl_X8_218) dX8_mean_9 ?_
    obtain rfl := Option.some.inj hf
    exact r_lret C0 hr hlocks hH dX8_mean_12
theorem dX8_see_0 : decode cX8_see 0 = .ok (.iload_n 1, 1) := by decide +kernel
theorem dX8_see_1 : decode cX8_see 1 = .ok (.iconst 0, 1) := by decide +kernel
theorem dX8_see_2 : decode cX8_see 2 = .ok (.bipush 30, 2) := by decide +kernel
theorem dX8_see_4 : decode cX8_see 4 = .ok (.invokestatic 60, 3) := by decide +kernel
theorem dX8_see_7 : decode cX8_see 7 = .ok (.ifCond .eq 24, 3) := by decide +kernel
theorem dX8_see_10 : decode cX8_see 10 = .ok (.aload_n 0, 1) := by decide +kernel
theorem dX8_see_11 : decode cX8_see 11 = .ok (.getfield 24, 3) := by decide +kernel
theorem dX8_see_14 : decode cX8_see 14 = .ok (.iload_n 2, 1) := by decide +kernel
theorem dX8_see_15 : decode cX8_see 15 = .ok (.invokevirtual 108, 3) := by decide +kernel
theorem dX8_see_18 : decode cX8_see 18 = .ok (.ifCond .eq 13, 3) := by decide +kernel
theorem dX8_see_21 : decode cX8_see 21 = .ok (.iload_n 3, 1) := by decide +kernel
theorem dX8_see_22 : decode cX8_see 22 = .ok (.iconst 0, 1) := by decide +kernel
theorem dX8_see_23 : decode cX8_see 23 = .ok (.bipush 99, 2) := by decide +kernel
theorem dX8_see_25 : decode cX8_see 25 = .ok (.invokestatic 60, 3) := by decide +kernel
theorem dX8_see_28 : decode cX8_see 28 = .ok (.ifCond .ne 5, 3) := by decide +kernel
theorem dX8_see_31 : decode cX8_see 31 = .ok (.iconst (-1), 1) := by decide +kernel
theorem dX8_see_32 : decode cX8_see 32 = .ok (.ireturn, 1) := by decide +kernel
theorem dX8_see_33 : decode cX8_see 33 = .ok (.aload_n 0, 1) := by decide +kernel
theorem dX8_see_34 : decode cX8_see 34 = .ok (.getfield 24, 3) := by decide +kernel
theorem dX8_see_37 : decode cX8_see 37 = .ok (.getfield 246, 3) := by decide +kernel
theorem dX8_see_40 : decode cX8_see 40 = .ok (.bipush 6, 2) := by decide +kernel
theorem dX8_see_42 : decode cX8_see 42 = .ok (.if_icmp .lt 6, 3) := by decide +kernel
theorem dX8_see_45 : decode cX8_see 45 = .ok (.bipush (-3), 2) := by decide +kernel
theorem dX8_see_47 : decode cX8_see 47 = .ok (.ireturn, 1) := by decide +kernel
theorem dX8_see_48 : decode cX8_see 48 = .ok (.aload_n 0, 1) := by decide +kernel
theorem dX8_see_49 : decode cX8_see 49 = .ok (.getfield 24, 3) := by decide +kernel
theorem dX8_see_52 : decode cX8_see 52 = .ok (.iload_n 1, 1) := by decide +kernel
theorem dX8_see_53 : decode cX8_see 53 = .ok (.iload_n 2, 1) := by decide +kernel
theorem dX8_see_54 : decode cX8_see 54 = .ok (.iload_n 3, 1) := by decide +kernel
theorem dX8_see_55 : decode cX8_see 55 = .ok (.invokevirtual 249, 3) := by decide +kernel
theorem dX8_see_58 : decode cX8_see 58 = .ok (.aload_n 0, 1) := by decide +kernel
theorem dX8_see_59 : decode cX8_see 59 = .ok (.getfield 24, 3) := by decide +kernel
theorem dX8_see_62 : decode cX8_see 62 = .ok (.getfield 246, 3) := by decide +kernel
theorem dX8_see_65 : decode cX8_see 65 = .ok (.ireturn, 1) := by decide +kernel
def f_X8_see (Λ : List Ly) (d : Dt) (p0 : Nat) (v1 : Int32) (v2 : Int32) (v3 : Int32) : Option (Int32 × Dt) := if (f_X8_within v1 (0 : Int32) (30 : Int32)) = 0 then (some ((-1 : Int32), d)) else (Option.bind (rf Λ p0 8 2) fun q2 => if clsAt Λ q2 = some 7 then (Option.bind (f_X7_has Λ d q2 v2) fun z4 => if z4 = 0 then (some ((-1 : Int32), d)) else (if (f_X8_within v3 (0 : Int32) (99 : Int32)) = 0 then (some ((-1 : Int32), d)) else (if (d.1 q2 9) < (6 : Int32) then (Option.bind (f_X7_note Λ d q2 v1 v2 v3) fun z8 => some ((z8.1 q2 9), z8)) else (some ((-3 : Int32), d))))) else none)
set_option maxHeartbeats 4000000 in
set_option maxRecDepth 100000 in
theorem c_X8_see (Γ : Cx) (l : Launch) (Λ : List Ly) (d : Dt) (p0 : Nat) (v1 : Int32) (v2 : Int32) (v3 : Int32) (z : Int32 × Dt) (hf : f_X8_see Λ d p0 v1 v2 v3 = some z) : Cn Γ l yX8_see cX8_see 4 (some FieldType.int) 2 43 [.ref (ad Γ.2.2.1 p0), .int v1, .int v2, .int v3] Λ d (some (.int z.1)) z.2 := by
  refine Cn.of (own := "SeasonBound") (by decide +kernel) rfl (Nat.le_of_ble_eq_true rfl) ?_
  intro p e s m below meth c C0 hr hlocks hH ls hl
  have hl : lv_has ls 4 [(0, .ref (ad Γ.2.2.1 p0)), (1, .int v1), (2, .int v2), (3, .int v3)] := hl
  obtain ⟨hx, hb, hml, hown, hts, hK⟩ := id C0
  unfold f_X8_see at hf
  refine lv_iload_n hx hb dX8_see_0 rfl (lv_at hl 1 rfl) ?_
  refine lv_iconst (v := (0 : Int32)) hx hb dX8_see_1 (by decide) ?_
  refine lv_bipush (v := (30 : Int32)) hx hb dX8_see_2 (by decide) ?_
  refine r_callSi (rest := []) C0 hH (c_X8_within Γ l Λ d v1 (0 : Int32) (30 : Int32)) cs_X8_60 (by decide) rfl hl.1 rfl (Nat.le_of_ble_eq_true rfl) dX8_see_4 (by decide) (fun H locs hH => ?_)
  refine lv_if_eq (tgt := 31) hx hb dX8_see_7 (by decide) (fun c1 => ?_) (fun c1 => ?_)
  · replace hf := it hf c1
    refine lv_iconst (v := (-1 : Int32)) hx hb dX8_see_31 (by decide) ?_
    obtain rfl := Option.some.inj hf
    exact r_iret (d' := d) C0 hr hlocks hH rfl dX8_see_32
  · replace hf := ie hf c1
    refine lv_aload_n hx hb dX8_see_10 rfl (lv_at hl 0 rfl) ?_
    obtain ⟨q2, g2, hf⟩ := ob hf
    refine r_getr C0 hH fl_X8_24 g2 dX8_see_11 ?_
    refine lv_iload_n hx hb dX8_see_14 rfl (lv_at hl 2 rfl) ?_
    obtain ⟨g3, hf⟩ := gd hf
    obtain ⟨z4, h4, hf⟩ := ob hf
    refine r_callVi (rest := []) C0 hH (c_X7_has Γ l Λ d q2 v2 z4 h4) cv_X8_108 g3 (by decide) rfl hl.1 rfl (Nat.le_of_ble_eq_true rfl) dX8_see_15 (by decide) (fun H locs hH => ?_)
    refine lv_if_eq (tgt := 31) hx hb dX8_see_18 (by decide) (fun c5 => ?_) (fun c5 => ?_)
    · replace hf := it hf c5
      refine lv_iconst (v := (-1 : Int32)) hx hb dX8_see_31 (by decide) ?_
      obtain rfl := Option.some.inj hf
      exact r_iret (d' := d) C0 hr hlocks hH rfl dX8_see_32
    · replace hf := ie hf c5
      refine lv_iload_n hx hb dX8_see_21 rfl (lv_at hl 3 rfl) ?_
      refine lv_iconst (v := (0 : Int32)) hx hb dX8_see_22 (by decide) ?_
      refine lv_bipush (v := (99 : Int32)) hx hb dX8_see_23 (by decide) ?_
      refine r_callSi (rest := []) C0 hH (c_X8_within Γ l Λ d v3 (0 : Int32) (99 : Int32)) cs_X8_60 (by decide) rfl hl.1 rfl (Nat.le_of_ble_eq_true rfl) dX8_see_25 (by decide) (fun H locs hH => ?_)
      refine lv_if_ne (tgt := 33) hx hb dX8_see_28 (by decide) (fun c6 => ?_) (fun c6 => ?_)
      · replace hf := ie hf c6
        refine lv_aload_n hx hb dX8_see_33 rfl (lv_at hl 0 rfl) ?_
        refine r_getr C0 hH fl_X8_24 g2 dX8_see_34 ?_
        refine r_geti C0 hH fl_X8_246 g3 rfl dX8_see_37 ?_
        refine lv_bipush (v := (6 : Int32)) hx hb dX8_see_40 (by decide) ?_
        refine lv_icmp_lt (tgt := 48) hx hb dX8_see_42 (by decide) (fun c7 => ?_) (fun c7 => ?_)
        · replace hf := it hf c7
          refine lv_aload_n hx hb dX8_see_48 rfl (lv_at hl 0 rfl) ?_
          refine r_getr C0 hH fl_X8_24 g2 dX8_see_49 ?_
          refine lv_iload_n hx hb dX8_see_52 rfl (lv_at hl 1 rfl) ?_
          refine lv_iload_n hx hb dX8_see_53 rfl (lv_at hl 2 rfl) ?_
          refine lv_iload_n hx hb dX8_see_54 rfl (lv_at hl 3 rfl) ?_
          obtain ⟨z8, h8, hf⟩ := ob hf
          refine r_callVv (rest := []) C0 hH (c_X7_note Γ l Λ d q2 v1 v2 v3 z8 h8) cv_X8_249 g3 (by decide) rfl hl.1 rfl (Nat.le_of_ble_eq_true rfl) dX8_see_55 (by decide) (fun H locs hH => ?_)
          refine lv_aload_n hx hb dX8_see_58 rfl (lv_at hl 0 rfl) ?_
          refine r_getr C0 hH fl_X8_24 g2 dX8_see_59 ?_
          refine r_geti C0 hH fl_X8_246 g3 rfl dX8_see_62 ?_
          obtain rfl := Option.some.inj hf
          exact r_iret (d' := d) C0 hr hlocks hH rfl dX8_see_65
        · replace hf := ie hf c7
          refine lv_bipush (v := (-3 : Int32)) hx hb dX8_see_45 (by decide) ?_
          obtain rfl := Option.some.inj hf
          exact r_iret (d' := d) C0 hr hlocks hH rfl dX8_see_47
      · replace hf := it hf c6
        refine lv_iconst (v := (-1 : Int32)) hx hb dX8_see_31 (by decide) ?_
        obtain rfl := Option.some.inj hf
        exact r_iret (d' := d) C0 hr hlocks hH rfl dX8_see_32
theorem dX8_forget_0 : decode cX8_forget 0 = .ok (.iload_n 1, 1) := by decide +kernel
theorem dX8_forget_1 : decode cX8_forget 1 = .ok (.iconst 0, 1) := by decide +kernel
theorem dX8_forget_2 : decode cX8_forget 2 = .ok (.aload_n 0, 1) := by decide +kernel
theorem dX8_forget_3 : decode cX8_forget 3 = .ok (.getfield 24, 3) := by decide +kernel
theorem dX8_forget_6 : decode cX8_forget 6 = .ok (.getfield 246, 3) := by decide +kernel
theorem dX8_forget_9 : decode cX8_forget 9 = .ok (.invokestatic 60, 3) := by decide +kernel
theorem dX8_forget_12 : decode cX8_forget 12 = .ok (.ifCond .ne 5, 3) := by decide +kernel
theorem dX8_forget_15 : decode cX8_forget 15 = .ok (.iconst (-1), 1) := by decide +kernel
theorem dX8_forget_16 : decode cX8_forget 16 = .ok (.ireturn, 1) := by decide +kernel
theorem dX8_forget_17 : decode cX8_forget 17 = .ok (.aload_n 0, 1) := by decide +kernel
theorem dX8_forget_18 : decode cX8_forget 18 = .ok (.getfield 24, 3) := by decide +kernel
theorem dX8_forget_21 : decode cX8_forget 21 = .ok (.getfield 246, 3) := by decide +kernel
theorem dX8_forget_24 : decode cX8_forget 24 = .ok (.istore_n 2, 1) := by decide +kernel
theorem dX8_forget_25 : decode cX8_forget 25 = .ok (.aload_n 0, 1) := by decide +kernel
theorem dX8_forget_26 : decode cX8_forget 26 = .ok (.getfield 24, 3) := by decide +kernel
theorem dX8_forget_29 : decode cX8_forget 29 = .ok (.iload_n 1, 1) := by decide +kernel
theorem dX8_forget_30 : decode cX8_forget 30 = .ok (.putfield 246, 3) := by decide +kernel
theorem dX8_forget_33 : decode cX8_forget 33 = .ok (.iload_n 2, 1) := by decide +kernel
theorem dX8_forget_34 : decode cX8_forget 34 = .ok (.ireturn, 1) := by decide +kernel
def f_X8_forget (Λ : List Ly) (d : Dt) (p0 : Nat) (v1 : Int32) : Option (Int32 × Dt) := Option.bind (rf Λ p0 8 2) fun q1 => if clsAt Λ q1 = some 7 then (if (f_X8_within v1 (0 : Int32) (d.1 q1 9)) = 0 then (some ((-1 : Int32), d)) else (some ((d.1 q1 9), (pI d q1 9 v1)))) else none
set_option maxHeartbeats 4000000 in
set_option maxRecDepth 100000 in
theorem c_X8_forget (Γ : Cx) (l : Launch) (Λ : List Ly) (d : Dt) (p0 : Nat) (v1 : Int32) (z : Int32 × Dt) (hf : f_X8_forget Λ d p0 v1 = some z) : Cn Γ l yX8_forget cX8_forget 3 (some FieldType.int) 1 22 [.ref (ad Γ.2.2.1 p0), .int v1] Λ d (some (.int z.1)) z.2 := by
  refine Cn.of (own := "SeasonBound") (by decide +kernel) rfl (Nat.le_of_ble_eq_true rfl) ?_
  intro p e s m below meth c C0 hr hlocks hH ls hl
  have hl : lv_has ls 3 [(0, .ref (ad Γ.2.2.1 p0)), (1, .int v1)] := hl
  obtain ⟨hx, hb, hml, hown, hts, hK⟩ := id C0
  unfold f_X8_forget at hf
  refine lv_iload_n hx hb dX8_forget_0 rfl (lv_at hl 1 rfl) ?_
  refine lv_iconst (v := (0 : Int32)) hx hb dX8_forget_1 (by decide) ?_
  refine lv_aload_n hx hb dX8_forget_2 rfl (lv_at hl 0 rfl) ?_
  obtain ⟨q1, g1, hf⟩ := ob hf
  refine r_getr C0 hH fl_X8_24 g1 dX8_forget_3 ?_
  obtain ⟨g2, hf⟩ := gd hf
  refine r_geti C0 hH fl_X8_246 g2 rfl dX8_forget_6 ?_
  refine r_callSi (rest := []) C0 hH (c_X8_within Γ l Λ d v1 (0 : Int32) (d.1 q1 9)) cs_X8_60 (by decide) rfl hl.1 rfl (Nat.le_of_ble_eq_true rfl) dX8_forget_9 (by decide) (fun H locs hH => ?_)
  refine lv_if_ne (tgt := 17) hx hb dX8_forget_12 (by decide) (fun c3 => ?_) (fun c3 => ?_)
  · replace hf := ie hf c3
    refine lv_aload_n hx hb dX8_forget_17 rfl (lv_at hl 0 rfl) ?_
    refine r_getr C0 hH fl_X8_24 g1 dX8_forget_18 ?_
    refine r_geti C0 hH fl_X8_246 g2 rfl dX8_forget_21 ?_
    refine lv_istore_n (lv' := [(2, .int (d.1 q1 9)), (0, .ref (ad Γ.2.2.1 p0)), (1, .int v1)]) hx hb dX8_forget_24 rfl hl (by decide) rfl (fun ls hl => ?_)
    refine lv_aload_n hx hb dX8_forget_25 rfl (lv_at hl 1 rfl) ?_
    refine r_getr C0 hH fl_X8_24 g1 dX8_forget_26 ?_
    refine lv_iload_n hx hb dX8_forget_29 rfl (lv_at hl 2 rfl) ?_
    refine r_puti C0 hH fw_X8_246 g2 rfl dX8_forget_30 (fun H locs hH => ?_)
    refine lv_iload_n hx hb dX8_forget_33 rfl (lv_at hl 0 rfl) ?_
    obtain rfl := Option.some.inj hf
    exact r_iret (d' := d) C0 hr hlocks hH rfl dX8_forget_34
  · replace hf := it hf c3
    refine lv_iconst (v := (-1 : Int32)) hx hb dX8_forget_15 (by decide) ?_
    obtain rfl := Option.some.inj hf
    exact r_iret (d' := d) C0 hr hlocks hH rfl dX8_forget_16
theorem dX8_kinds_0 : decode cX8_kinds 0 = .ok (.aload_n 0, 1) := by decide +kernel
theorem dX8_kinds_1 : decode cX8_kinds 1 = .ok (.getfield 24, 3) := by decide +kernel
theorem dX8_kinds_4 : decode cX8_kinds 4 = .ok (.iload_n 1, 1) := by decide +kernel
theorem dX8_kinds_5 : decode cX8_kinds 5 = .ok (.invokevirtual 108, 3) := by decide +kernel
theorem dX8_kinds_8 : decode cX8_kinds 8 = .ok (.ifCond .ne 5, 3) := by decide +kernel
theorem dX8_kinds_11 : decode cX8_kinds 11 = .ok (.iconst (-1), 1) := by decide +kernel
theorem dX8_kinds_12 : decode cX8_kinds 12 = .ok (.ireturn, 1) := by decide +kernel
theorem dX8_kinds_13 : decode cX8_kinds 13 = .ok (.iconst 0, 1) := by decide +kernel
theorem dX8_kinds_14 : decode cX8_kinds 14 = .ok (.istore_n 2, 1) := by decide +kernel
theorem dX8_kinds_15 : decode cX8_kinds 15 = .ok (.iconst 0, 1) := by decide +kernel
theorem dX8_kinds_16 : decode cX8_kinds 16 = .ok (.istore_n 3, 1) := by decide +kernel
theorem dX8_kinds_17 : decode cX8_kinds 17 = .ok (.iload_n 3, 1) := by decide +kernel
theorem dX8_kinds_18 : decode cX8_kinds 18 = .ok (.iconst 4, 1) := by decide +kernel
theorem dX8_kinds_19 : decode cX8_kinds 19 = .ok (.if_icmp .ge 49, 3) := by decide +kernel
theorem dX8_kinds_22 : decode cX8_kinds 22 = .ok (.aload_n 0, 1) := by decide +kernel
theorem dX8_kinds_23 : decode cX8_kinds 23 = .ok (.getfield 28, 3) := by decide +kernel
theorem dX8_kinds_26 : decode cX8_kinds 26 = .ok (.aload_n 0, 1) := by decide +kernel
theorem dX8_kinds_27 : decode cX8_kinds 27 = .ok (.getfield 24, 3) := by decide +kernel
theorem dX8_kinds_30 : decode cX8_kinds 30 = .ok (.invokevirtual 87, 3) := by decide +kernel
theorem dX8_kinds_33 : decode cX8_kinds 33 = .ok (.aload_n 0, 1) := by decide +kernel
theorem dX8_kinds_34 : decode cX8_kinds 34 = .ok (.getfield 28, 3) := by decide +kernel
theorem dX8_kinds_37 : decode cX8_kinds 37 = .ok (.getfield 112, 3) := by decide +kernel
theorem dX8_kinds_40 : decode cX8_kinds 40 = .ok (.iload_n 1, 1) := by decide +kernel
theorem dX8_kinds_41 : decode cX8_kinds 41 = .ok (.aaload, 1) := by decide +kernel
theorem dX8_kinds_42 : decode cX8_kinds 42 = .ok (.iload_n 3, 1) := by decide +kernel
theorem dX8_kinds_43 : decode cX8_kinds 43 = .ok (.putfield 116, 3) := by decide +kernel
theorem dX8_kinds_46 : decode cX8_kinds 46 = .ok (.aload_n 0, 1) := by decide +kernel
theorem dX8_kinds_47 : decode cX8_kinds 47 = .ok (.getfield 28, 3) := by decide +kernel
theorem dX8_kinds_50 : decode cX8_kinds 50 = .ok (.invokevirtual 253, 3) := by decide +kernel
theorem dX8_kinds_53 : decode cX8_kinds 53 = .ok (.ifCond .eq 9, 3) := by decide +kernel
theorem dX8_kinds_56 : decode cX8_kinds 56 = .ok (.iload_n 2, 1) := by decide +kernel
theorem dX8_kinds_57 : decode cX8_kinds 57 = .ok (.iconst 1, 1) := by decide +kernel
theorem dX8_kinds_58 : decode cX8_kinds 58 = .ok (.iload_n 3, 1) := by decide +kernel
theorem dX8_kinds_59 : decode cX8_kinds 59 = .ok (.ishl, 1) := by decide +kernel
theorem dX8_kinds_60 : decode cX8_kinds 60 = .ok (.ior, 1) := by decide +kernel
theorem dX8_kinds_61 : decode cX8_kinds 61 = .ok (.istore_n 2, 1) := by decide +kernel
theorem dX8_kinds_62 : decode cX8_kinds 62 = .ok (.iinc 3 1, 3) := by decide +kernel
theorem dX8_kinds_65 : decode cX8_kinds 65 = .ok (.goto (-48), 3) := by decide +kernel
theorem dX8_kinds_68 : decode cX8_kinds 68 = .ok (.iload_n 2, 1) := by decide +kernel
theorem dX8_kinds_69 : decode cX8_kinds 69 = .ok (.ireturn, 1) := by decide +kernel
def f_X8_kinds_L17 (Λ : List Ly) (p0 : Nat) (v1 : Int32) : Nat → Int32 → Int32 → Dt → Option (Int32 × Dt)
  | 0, _, _, _ => none
  | n + 1, v2, v3, d => if (4 : Int32) ≤ v3 then (some (v2, d)) else (Option.bind (rf Λ p0 8 3) fun q6 => Option.bind (rf Λ p0 8 2) fun q7 => if clsAt Λ q6 = some 7 then (Option.bind (f_X7_copy Λ d q6 q7) fun z9 => Option.bind (rf Λ q6 7 1) fun q10 => Option.bind (ra Λ q10 4 v1) fun q11 => if clsAt Λ q11 = some 1 then (Option.bind (f_X7_comesAsSeen Λ (pI z9 q11 0 v3) q6) fun z13 => if z13.1 = 0 then (f_X8_kinds_L17 Λ p0 v1 n v2 (v3 + (1 : Int32)) z13.2) else (f_X8_kinds_L17 Λ p0 v1 n (v2 ||| ((1 : Int32) <<< (v3 &&& 31))) (v3 + (1 : Int32)) z13.2)) else none) else none)
def f_X8_kinds (Λ : List Ly) (d : Dt) (p0 : Nat) (v1 : Int32) : Option (Int32 × Dt) := Option.bind (rf Λ p0 8 2) fun q1 => if clsAt Λ q1 = some 7 then (Option.bind (f_X7_has Λ d q1 v1) fun z3 => if z3 = 0 then (some ((-1 : Int32), d)) else (f_X8_kinds_L17 Λ p0 v1 FU (0 : Int32) (0 : Int32) d)) else none
set_option maxHeartbeats 4000000 in
set_option maxRecDepth 100000 in
theorem w_X8_kinds_L17 {p : Program} {l : Launch} {e : Env} {s : State} {m : MethodId} {args : Array Value} {below : List Frame} {meth : Method} {c : Code} {Γ : Cx} {Λ : List Ly} {z : Int32 × Dt} (C0 : Ct Γ p s m args c cX8_kinds 4 "SeasonBound") (hr : meth.sig.returnType = (some FieldType.int)) (hlocks : meth.locks = false) (p0 : Nat) (v1 : Int32) :
    ∀ (n : Nat) (v2 : Int32) (v3 : Int32) (d : Dt), f_X8_kinds_L17 Λ p0 v1 n v2 v3 d = some z → ∀ (H : Heap) (locs : List Loc) (ls : Array Slot), Hs Γ Λ d s H locs → lv_has ls 4 [(0, .ref (ad Γ.2.2.1 p0)), (1, .int v1), (2, .int v2), (3, .int v3)] → W p l e { frames := 5, cells := 0, slots := 0, locals := 107 } s m args below meth c H locs 0 0 (MQ below (QN Γ Λ z.2 (some (.int z.1))) args s 0 0 (AP Γ)) (F0 m 17 ls []) := by
  obtain ⟨hx, hb, hml, hown, hts, hK⟩ := id C0
  intro n
  induction n with
  | zero =>
    intro v2 v3 d hf
    cases hf
  | succ n ih =>
    intro v2 v3 d hf H locs ls hH hl
    unfold f_X8_kinds_L17 at hf
    refine lv_iload_n hx hb dX8_kinds_17 rfl (lv_at hl 3 rfl) ?_
    refine lv_iconst (v := (4 : Int32)) hx hb dX8_kinds_18 (by decide) ?_
    refine lv_icmp_ge (tgt := 68) hx hb dX8_kinds_19 (by decide) (fun c5 => ?_) (fun c5 => ?_)
    · replace hf := it hf c5
      refine lv_iload_n hx hb dX8_kinds_68 rfl (lv_at hl 2 rfl) ?_
      obtain rfl := Option.some.inj hf
      exact r_iret (d' := d) C0 hr hlocks hH rfl dX8_kinds_69
    · replace hf := ie hf c5
      refine lv_aload_n hx hb dX8_kinds_22 rfl (lv_at hl 0 rfl) ?_
      obtain ⟨q6, g6, hf⟩ := ob hf
      refine r_getr C0 hH fl_X8_28 g6 dX8_kinds_23 ?_
      refine lv_aload_n hx hb dX8_kinds_26 rfl (lv_at hl 0 rfl) ?_
      obtain ⟨q7, g7, hf⟩ := ob hf
      refine r_getr C0 hH fl_X8_24 g7 dX8_kinds_27 ?_
      obtain ⟨g8, hf⟩ := gd hf
      obtain ⟨z9, h9, hf⟩ := ob hf
      refine r_callVv (rest := []) C0 hH (c_X7_copy Γ l Λ d q6 q7 z9 h9) cv_X8_87 g8 (by decide) rfl hl.1 rfl (Nat.le_of_ble_eq_true rfl) dX8_kinds_30 (by decide) (fun H locs hH => ?_)
      refine lv_aload_n hx hb dX8_kinds_33 rfl (lv_at hl 0 rfl) ?_
      refine r_getr C0 hH fl_X8_28 g6 dX8_kinds_34 ?_
      obtain ⟨q10, g10, hf⟩ := ob hf
      refine r_getr C0 hH fl_X8_112 g10 dX8_kinds_37 ?_
      refine lv_iload_n hx hb dX8_kinds_40 rfl (lv_at hl 1 rfl) ?_
      obtain ⟨q11, g11, hf⟩ := ob hf
      refine r_aald (C := "SeasonBound$Child") C0 hH g11 (by decide) rfl dX8_kinds_41 ?_
      refine lv_iload_n hx hb dX8_kinds_42 rfl (lv_at hl 3 rfl) ?_
      obtain ⟨g12, hf⟩ := gd hf
      refine r_puti C0 hH fw_X8_116 g12 rfl dX8_kinds_43 (fun H locs hH => ?_)
      refine lv_aload_n hx hb dX8_kinds_46 rfl (lv_at hl 0 rfl) ?_
      refine r_getr C0 hH fl_X8_28 g6 dX8_kinds_47 ?_
      obtain ⟨z13, h13, hf⟩ := ob hf
      refine r_callVi (rest := []) C0 hH (c_X7_comesAsSeen Γ l Λ (pI z9 q11 0 v3) q6 z13 h13) cv_X8_253 g8 (by decide) rfl hl.1 rfl (Nat.le_of_ble_eq_true rfl) dX8_kinds_50 (by decide) (fun H locs hH => ?_)
      refine lv_if_eq (tgt := 62) hx hb dX8_kinds_53 (by decide) (fun c14 => ?_) (fun c14 => ?_)
      · replace hf := it hf c14
        refine lv_iinc (v := (v3 + (1 : Int32))) (lv' := [(3, .int (v3 + (1 : Int32))), (0, .ref (ad Γ.2.2.1 p0)), (1, .int v1), (2, .int v2)]) hx hb dX8_kinds_62 hl (k := 3) rfl (congrArg (fun w => v3 + w) (by decide)) (by decide) rfl (fun ls hl => ?_)
        refine lv_goto (tgt := 17) hx hb dX8_kinds_65 (by decide) ?_
        exact ih v2 (v3 + (1 : Int32)) z13.2 hf _ _ _ hH (lv_sub hl [1, 2, 3, 0] rfl)
      · replace hf := ie hf c14
        refine lv_iload_n hx hb dX8_kinds_56 rfl (lv_at hl 2 rfl) ?_
        refine lv_iconst (v := (1 : Int32)) hx hb dX8_kinds_57 (by decide) ?_
        refine lv_iload_n hx hb dX8_kinds_58 rfl (lv_at hl 3 rfl) ?_
        refine lv_ishl hx hb dX8_kinds_59 ?_
        refine lv_ior hx hb dX8_kinds_60 ?_
        refine lv_istore_n (lv' := [(2, .int (v2 ||| ((1 : Int32) <<< (v3 &&& 31)))), (0, .ref (ad Γ.2.2.1 p0)), (1, .int v1), (3, .int v3)]) hx hb dX8_kinds_61 rfl hl (by decide) rfl (fun ls hl => ?_)
        refine lv_iinc (v := (v3 + (1 : Int32))) (lv' := [(3, .int (v3 + (1 : Int32))), (2, .int (v2 ||| ((1 : Int32) <<< (v3 &&& 31)))), (0, .ref (ad Γ.2.2.1 p0)), (1, .int v1)]) hx hb dX8_kinds_62 hl (k := 3) rfl (congrArg (fun w => v3 + w) (by decide)) (by decide) rfl (fun ls hl => ?_)
        refine lv_goto (tgt := 17) hx hb dX8_kinds_65 (by decide) ?_
        exact ih (v2 ||| ((1 : Int32) <<< (v3 &&& 31))) (v3 + (1 : Int32)) z13.2 hf _ _ _ hH (lv_sub hl [2, 3, 1, 0] rfl)
set_option maxHeartbeats 4000000 in
set_option maxRecDepth 100000 in
theorem c_X8_kinds (Γ : Cx) (l : Launch) (Λ : List Ly) (d : Dt) (p0 : Nat) (v1 : Int32) (z : Int32 × Dt) (hf : f_X8_kinds Λ d p0 v1 = some z) : Cn Γ l yX8_kinds cX8_kinds 4 (some FieldType.int) 5 107 [.ref (ad Γ.2.2.1 p0), .int v1] Λ d (some (.int z.1)) z.2 := by
  refine Cn.of (own := "SeasonBound") (by decide +kernel) rfl (Nat.le_of_ble_eq_true rfl) ?_
  intro p e s m below meth c C0 hr hlocks hH ls hl
  have hl : lv_has ls 4 [(0, .ref (ad Γ.2.2.1 p0)), (1, .int v1)] := hl
  obtain ⟨hx, hb, hml, hown, hts, hK⟩ := id C0
  unfold f_X8_kinds at hf
  refine lv_aload_n hx hb dX8_kinds_0 rfl (lv_at hl 0 rfl) ?_
  obtain ⟨q1, g1, hf⟩ := ob hf
  refine r_getr C0 hH fl_X8_24 g1 dX8_kinds_1 ?_
  refine lv_iload_n hx hb dX8_kinds_4 rfl (lv_at hl 1 rfl) ?_
  obtain ⟨g2, hf⟩ := gd hf
  obtain ⟨z3, h3, hf⟩ := ob hf
  refine r_callVi (rest := []) C0 hH (c_X7_has Γ l Λ d q1 v1 z3 h3) cv_X8_108 g2 (by decide) rfl hl.1 rfl (Nat.le_of_ble_eq_true rfl) dX8_kinds_5 (by decide) (fun H locs hH => ?_)
  refine lv_if_ne (tgt := 13) hx hb dX8_kinds_8 (by decide) (fun c4 => ?_) (fun c4 => ?_)
  · replace hf := ie hf c4
    refine lv_iconst (v := (0 : Int32)) hx hb dX8_kinds_13 (by decide) ?_
    refine lv_istore_n (lv' := [(2, .int (0 : Int32)), (0, .ref (ad Γ.2.2.1 p0)), (1, .int v1)]) hx hb dX8_kinds_14 rfl hl (by decide) rfl (fun ls hl => ?_)
    refine lv_iconst (v := (0 : Int32)) hx hb dX8_kinds_15 (by decide) ?_
    refine lv_istore_n (lv' := [(3, .int (0 : Int32)), (2, .int (0 : Int32)), (0, .ref (ad Γ.2.2.1 p0)), (1, .int v1)]) hx hb dX8_kinds_16 rfl hl (by decide) rfl (fun ls hl => ?_)
    refine w_X8_kinds_L17 C0 hr hlocks p0 v1 FU (0 : Int32) (0 : Int32) d hf _ _ _ hH (lv_sub hl [2, 3, 1, 0] rfl)
  · replace hf := it hf c4
    refine lv_iconst (v := (-1 : Int32)) hx hb dX8_kinds_11 (by decide) ?_
    obtain rfl := Option.some.inj hf
    exact r_iret (d' := d) C0 hr hlocks hH rfl dX8_kinds_12
theorem dX8_seasons_0 : decode cX8_seasons 0 = .ok (.aload_n 0, 1) := by decide +kernel
theorem dX8_seasons_1 : decode cX8_seasons 1 = .ok (.getfield 24, 3) := by decide +kernel
theorem dX8_seasons_4 : decode cX8_seasons 4 = .ok (.iload_n 1, 1) := by decide +kernel
theorem dX8_seasons_5 : decode cX8_seasons 5 = .ok (.invokevirtual 108, 3) := by decide +kernel
theorem dX8_seasons_8 : decode cX8_seasons 8 = .ok (.ifCond .ne 5, 3) := by decide +kernel
theorem dX8_seasons_11 : decode cX8_seasons 11 = .ok (.iconst (-1), 1) := by decide +kernel
theorem dX8_seasons_12 : decode cX8_seasons 12 = .ok (.ireturn, 1) := by decide +kernel
theorem dX8_seasons_13 : decode cX8_seasons 13 = .ok (.aload_n 0, 1) := by decide +kernel
theorem dX8_seasons_14 : decode cX8_seasons 14 = .ok (.getfield 24, 3) := by decide +kernel
theorem dX8_seasons_17 : decode cX8_seasons 17 = .ok (.getfield 112, 3) := by decide +kernel
theorem dX8_seasons_20 : decode cX8_seasons 20 = .ok (.iload_n 1, 1) := by decide +kernel
theorem dX8_seasons_21 : decode cX8_seasons 21 = .ok (.aaload, 1) := by decide +kernel
theorem dX8_seasons_22 : decode cX8_seasons 22 = .ok (.invokevirtual 121, 3) := by decide +kernel
theorem dX8_seasons_25 : decode cX8_seasons 25 = .ok (.ifCond .eq 6, 3) := by decide +kernel
theorem dX8_seasons_28 : decode cX8_seasons 28 = .ok (.bipush (-2), 2) := by decide +kernel
theorem dX8_seasons_30 : decode cX8_seasons 30 = .ok (.ireturn, 1) := by decide +kernel
theorem dX8_seasons_31 : decode cX8_seasons 31 = .ok (.iconst 0, 1) := by decide +kernel
theorem dX8_seasons_32 : decode cX8_seasons 32 = .ok (.istore_n 2, 1) := by decide +kernel
theorem dX8_seasons_33 : decode cX8_seasons 33 = .ok (.iconst 0, 1) := by decide +kernel
theorem dX8_seasons_34 : decode cX8_seasons 34 = .ok (.istore_n 3, 1) := by decide +kernel
theorem dX8_seasons_35 : decode cX8_seasons 35 = .ok (.iload_n 3, 1) := by decide +kernel
theorem dX8_seasons_36 : decode cX8_seasons 36 = .ok (.iconst 4, 1) := by decide +kernel
theorem dX8_seasons_37 : decode cX8_seasons 37 = .ok (.if_icmp .ge 49, 3) := by decide +kernel
theorem dX8_seasons_40 : decode cX8_seasons 40 = .ok (.aload_n 0, 1) := by decide +kernel
theorem dX8_seasons_41 : decode cX8_seasons 41 = .ok (.getfield 28, 3) := by decide +kernel
theorem dX8_seasons_44 : decode cX8_seasons 44 = .ok (.aload_n 0, 1) := by decide +kernel
theorem dX8_seasons_45 : decode cX8_seasons 45 = .ok (.getfield 24, 3) := by decide +kernel
theorem dX8_seasons_48 : decode cX8_seasons 48 = .ok (.invokevirtual 87, 3) := by decide +kernel
theorem dX8_seasons_51 : decode cX8_seasons 51 = .ok (.aload_n 0, 1) := by decide +kernel
theorem dX8_seasons_52 : decode cX8_seasons 52 = .ok (.getfield 28, 3) := by decide +kernel
theorem dX8_seasons_55 : decode cX8_seasons 55 = .ok (.getfield 112, 3) := by decide +kernel
theorem dX8_seasons_58 : decode cX8_seasons 58 = .ok (.iload_n 1, 1) := by decide +kernel
theorem dX8_seasons_59 : decode cX8_seasons 59 = .ok (.aaload, 1) := by decide +kernel
theorem dX8_seasons_60 : decode cX8_seasons 60 = .ok (.iload_n 3, 1) := by decide +kernel
theorem dX8_seasons_61 : decode cX8_seasons 61 = .ok (.putfield 125, 3) := by decide +kernel
theorem dX8_seasons_64 : decode cX8_seasons 64 = .ok (.aload_n 0, 1) := by decide +kernel
theorem dX8_seasons_65 : decode cX8_seasons 65 = .ok (.getfield 28, 3) := by decide +kernel
theorem dX8_seasons_68 : decode cX8_seasons 68 = .ok (.invokevirtual 253, 3) := by decide +kernel
theorem dX8_seasons_71 : decode cX8_seasons 71 = .ok (.ifCond .eq 9, 3) := by decide +kernel
theorem dX8_seasons_74 : decode cX8_seasons 74 = .ok (.iload_n 2, 1) := by decide +kernel
theorem dX8_seasons_75 : decode cX8_seasons 75 = .ok (.iconst 1, 1) := by decide +kernel
theorem dX8_seasons_76 : decode cX8_seasons 76 = .ok (.iload_n 3, 1) := by decide +kernel
theorem dX8_seasons_77 : decode cX8_seasons 77 = .ok (.ishl, 1) := by decide +kernel
theorem dX8_seasons_78 : decode cX8_seasons 78 = .ok (.ior, 1) := by decide +kernel
theorem dX8_seasons_79 : decode cX8_seasons 79 = .ok (.istore_n 2, 1) := by decide +kernel
theorem dX8_seasons_80 : decode cX8_seasons 80 = .ok (.iinc 3 1, 3) := by decide +kernel
theorem dX8_seasons_83 : decode cX8_seasons 83 = .ok (.goto (-48), 3) := by decide +kernel
theorem dX8_seasons_86 : decode cX8_seasons 86 = .ok (.iload_n 2, 1) := by decide +kernel
theorem dX8_seasons_87 : decode cX8_seasons 87 = .ok (.ireturn, 1) := by decide +kernel
def f_X8_seasons_L35 (Λ : List Ly) (p0 : Nat) (v1 : Int32) : Nat → Int32 → Int32 → Dt → Option (Int32 × Dt)
  | 0, _, _, _ => none
  | n + 1, v2, v3, d => if (4 : Int32) ≤ v3 then (some (v2, d)) else (Option.bind (rf Λ p0 8 3) fun q11 => Option.bind (rf Λ p0 8 2) fun q12 => if clsAt Λ q11 = some 7 then (Option.bind (f_X7_copy Λ d q11 q12) fun z14 => Option.bind (rf Λ q11 7 1) fun q15 => Option.bind (ra Λ q15 4 v1) fun q16 => if clsAt Λ q16 = some 1 then (Option.bind (f_X7_comesAsSeen Λ (pI z14 q16 1 v3) q11) fun z18 => if z18.1 = 0 then (f_X8_seasons_L35 Λ p0 v1 n v2 (v3 + (1 : Int32)) z18.2) else (f_X8_seasons_L35 Λ p0 v1 n (v2 ||| ((1 : Int32) <<< (v3 &&& 31))) (v3 + (1 : Int32)) z18.2)) else none) else none)
def f_X8_seasons (Λ : List Ly) (d : Dt) (p0 : Nat) (v1 : Int32) : Option (Int32 × Dt) := Option.bind (rf Λ p0 8 2) fun q1 => if clsAt Λ q1 = some 7 then (Option.bind (f_X7_has Λ d q1 v1) fun z3 => if z3 = 0 then (some ((-1 : Int32), d)) else (Option.bind (rf Λ q1 7 1) fun q5 => Option.bind (ra Λ q5 4 v1) fun q6 => if clsAt Λ q6 = some 1 then (Option.bind (f_X1_isFree Λ d q6) fun z8 => if z8 = 0 then (f_X8_seasons_L35 Λ p0 v1 FU (0 : Int32) (0 : Int32) d) else (some ((-2 : Int32), d))) else none)) else none
set_option maxHeartbeats 4000000 in
set_option maxRecDepth 100000 in
theorem w_X8_seasons_L35 {p : Program} {l : Launch} {e : Env} {s : State} {m : MethodId} {args : Array Value} {below : List Frame} {meth : Method} {c : Code} {Γ : Cx} {Λ : List Ly} {z : Int32 × Dt} (C0 : Ct Γ p s m args c cX8_seasons 4 "SeasonBound") (hr : meth.sig.returnType = (some FieldType.int)) (hlocks : meth.locks = false) (p0 : Nat) (v1 : Int32) :
    ∀ (n : Nat) (v2 : Int32) (v3 : Int32) (d : Dt), f_X8_seasons_L35 Λ p0 v1 n v2 v3 d = some z → ∀ (H : Heap) (locs : List Loc) (ls : Array Slot), Hs Γ Λ d s H locs → lv_has ls 4 [(0, .ref (ad Γ.2.2.1 p0)), (1, .int v1), (2, .int v2), (3, .int v3)] → W p l e { frames := 5, cells := 0, slots := 0, locals := 107 } s m args below meth c H locs 0 0 (MQ below (QN Γ Λ z.2 (some (.int z.1))) args s 0 0 (AP Γ)) (F0 m 35 ls []) := by
  obtain ⟨hx, hb, hml, hown, hts, hK⟩ := id C0
  intro n
  induction n with
  | zero =>
    intro v2 v3 d hf
    cases hf
  | succ n ih =>
    intro v2 v3 d hf H locs ls hH hl
    unfold f_X8_seasons_L35 at hf
    refine lv_iload_n hx hb dX8_seasons_35 rfl (lv_at hl 3 rfl) ?_
    refine lv_iconst (v := (4 : Int32)) hx hb dX8_seasons_36 (by decide) ?_
    refine lv_icmp_ge (tgt := 86) hx hb dX8_seasons_37 (by decide) (fun c10 => ?_) (fun c10 => ?_)
    · replace hf := it hf c10
      refine lv_iload_n hx hb dX8_seasons_86 rfl (lv_at hl 2 rfl) ?_
      obtain rfl := Option.some.inj hf
      exact r_iret (d' := d) C0 hr hlocks hH rfl dX8_seasons_87
    · replace hf := ie hf c10
      refine lv_aload_n hx hb dX8_seasons_40 rfl (lv_at hl 0 rfl) ?_
      obtain ⟨q11, g11, hf⟩ := ob hf
      refine r_getr C0 hH fl_X8_28 g11 dX8_seasons_41 ?_
      refine lv_aload_n hx hb dX8_seasons_44 rfl (lv_at hl 0 rfl) ?_
      obtain ⟨q12, g12, hf⟩ := ob hf
      refine r_getr C0 hH fl_X8_24 g12 dX8_seasons_45 ?_
      obtain ⟨g13, hf⟩ := gd hf
      obtain ⟨z14, h14, hf⟩ := ob hf
      refine r_callVv (rest := []) C0 hH (c_X7_copy Γ l Λ d q11 q12 z14 h14) cv_X8_87 g13 (by decide) rfl hl.1 rfl (Nat.le_of_ble_eq_true rfl) dX8_seasons_48 (by decide) (fun H locs hH => ?_)
      refine lv_aload_n hx hb dX8_seasons_51 rfl (lv_at hl 0 rfl) ?_
      refine r_getr C0 hH fl_X8_28 g11 dX8_seasons_52 ?_
      obtain ⟨q15, g15, hf⟩ := ob hf
      refine r_getr C0 hH fl_X8_112 g15 dX8_seasons_55 ?_
      refine lv_iload_n hx hb dX8_seasons_58 rfl (lv_at hl 1 rfl) ?_
      obtain ⟨q16, g16, hf⟩ := ob hf
      refine r_aald (C := "SeasonBound$Child") C0 hH g16 (by decide) rfl dX8_seasons_59 ?_
      refine lv_iload_n hx hb dX8_seasons_60 rfl (lv_at hl 3 rfl) ?_
      obtain ⟨g17, hf⟩ := gd hf
      refine r_puti C0 hH fw_X8_125 g17 rfl dX8_seasons_61 (fun H locs hH => ?_)
      refine lv_aload_n hx hb dX8_seasons_64 rfl (lv_at hl 0 rfl) ?_
      refine r_getr C0 hH fl_X8_28 g11 dX8_seasons_65 ?_
      obtain ⟨z18, h18, hf⟩ := ob hf
      refine r_callVi (rest := []) C0 hH (c_X7_comesAsSeen Γ l Λ (pI z14 q16 1 v3) q11 z18 h18) cv_X8_253 g13 (by decide) rfl hl.1 rfl (Nat.le_of_ble_eq_true rfl) dX8_seasons_68 (by decide) (fun H locs hH => ?_)
      refine lv_if_eq (tgt := 80) hx hb dX8_seasons_71 (by decide) (fun c19 => ?_) (fun c19 => ?_)
      · replace hf := it hf c19
        refine lv_iinc (v := (v3 + (1 : Int32))) (lv' := [(3, .int (v3 + (1 : Int32))), (0, .ref (ad Γ.2.2.1 p0)), (1, .int v1), (2, .int v2)]) hx hb dX8_seasons_80 hl (k := 3) rfl (congrArg (fun w => v3 + w) (by decide)) (by decide) rfl (fun ls hl => ?_)
        refine lv_goto (tgt := 35) hx hb dX8_seasons_83 (by decide) ?_
        exact ih v2 (v3 + (1 : Int32)) z18.2 hf _ _ _ hH (lv_sub hl [1, 2, 3, 0] rfl)
      · replace hf := ie hf c19
        refine lv_iload_n hx hb dX8_seasons_74 rfl (lv_at hl 2 rfl) ?_
        refine lv_iconst (v := (1 : Int32)) hx hb dX8_seasons_75 (by decide) ?_
        refine lv_iload_n hx hb dX8_seasons_76 rfl (lv_at hl 3 rfl) ?_
        refine lv_ishl hx hb dX8_seasons_77 ?_
        refine lv_ior hx hb dX8_seasons_78 ?_
        refine lv_istore_n (lv' := [(2, .int (v2 ||| ((1 : Int32) <<< (v3 &&& 31)))), (0, .ref (ad Γ.2.2.1 p0)), (1, .int v1), (3, .int v3)]) hx hb dX8_seasons_79 rfl hl (by decide) rfl (fun ls hl => ?_)
        refine lv_iinc (v := (v3 + (1 : Int32))) (lv' := [(3, .int (v3 + (1 : Int32))), (2, .int (v2 ||| ((1 : Int32) <<< (v3 &&& 31)))), (0, .ref (ad Γ.2.2.1 p0)), (1, .int v1)]) hx hb dX8_seasons_80 hl (k := 3) rfl (congrArg (fun w => v3 + w) (by decide)) (by decide) rfl (fun ls hl => ?_)
        refine lv_goto (tgt := 35) hx hb dX8_seasons_83 (by decide) ?_
        exact ih (v2 ||| ((1 : Int32) <<< (v3 &&& 31))) (v3 + (1 : Int32)) z18.2 hf _ _ _ hH (lv_sub hl [2, 3, 1, 0] rfl)
set_option maxHeartbeats 4000000 in
set_option maxRecDepth 100000 in
theorem c_X8_seasons (Γ : Cx) (l : Launch) (Λ : List Ly) (d : Dt) (p0 : Nat) (v1 : Int32) (z : Int32 × Dt) (hf : f_X8_seasons Λ d p0 v1 = some z) : Cn Γ l yX8_seasons cX8_seasons 4 (some FieldType.int) 5 107 [.ref (ad Γ.2.2.1 p0), .int v1] Λ d (some (.int z.1)) z.2 := by
  refine Cn.of (own := "SeasonBound") (by decide +kernel) rfl (Nat.le_of_ble_eq_true rfl) ?_
  intro p e s m below meth c C0 hr hlocks hH ls hl
  have hl : lv_has ls 4 [(0, .ref (ad Γ.2.2.1 p0)), (1, .int v1)] := hl
  obtain ⟨hx, hb, hml, hown, hts, hK⟩ := id C0
  unfold f_X8_seasons at hf
  refine lv_aload_n hx hb dX8_seasons_0 rfl (lv_at hl 0 rfl) ?_
  obtain ⟨q1, g1, hf⟩ := ob hf
  refine r_getr C0 hH fl_X8_24 g1 dX8_seasons_1 ?_
  refine lv_iload_n hx hb dX8_seasons_4 rfl (lv_at hl 1 rfl) ?_
  obtain ⟨g2, hf⟩ := gd hf
  obtain ⟨z3, h3, hf⟩ := ob hf
  refine r_callVi (rest := []) C0 hH (c_X7_has Γ l Λ d q1 v1 z3 h3) cv_X8_108 g2 (by decide) rfl hl.1 rfl (Nat.le_of_ble_eq_true rfl) dX8_seasons_5 (by decide) (fun H locs hH => ?_)
  refine lv_if_ne (tgt := 13) hx hb dX8_seasons_8 (by decide) (fun c4 => ?_) (fun c4 => ?_)
  · replace hf := ie hf c4
    refine lv_aload_n hx hb dX8_seasons_13 rfl (lv_at hl 0 rfl) ?_
    refine r_getr C0 hH fl_X8_24 g1 dX8_seasons_14 ?_
    obtain ⟨q5, g5, hf⟩ := ob hf
    refine r_getr C0 hH fl_X8_112 g5 dX8_seasons_17 ?_
    refine lv_iload_n hx hb dX8_seasons_20 rfl (lv_at hl 1 rfl) ?_
    obtain ⟨q6, g6, hf⟩ := ob hf
    refine r_aald (C := "SeasonBound$Child") C0 hH g6 (by decide) rfl dX8_seasons_21 ?_
    obtain ⟨g7, hf⟩ := gd hf
    obtain ⟨z8, h8, hf⟩ := ob hf
    refine r_callVi (rest := []) C0 hH (c_X1_isFree Γ l Λ d q6 z8 h8) cv_X8_121 g7 (by decide) rfl hl.1 rfl (Nat.le_of_ble_eq_true rfl) dX8_seasons_22 (by decide) (fun H locs hH => ?_)
    refine lv_if_eq (tgt := 31) hx hb dX8_seasons_25 (by decide) (fun c9 => ?_) (fun c9 => ?_)
    · replace hf := it hf c9
      refine lv_iconst (v := (0 : Int32)) hx hb dX8_seasons_31 (by decide) ?_
      refine lv_istore_n (lv' := [(2, .int (0 : Int32)), (0, .ref (ad Γ.2.2.1 p0)), (1, .int v1)]) hx hb dX8_seasons_32 rfl hl (by decide) rfl (fun ls hl => ?_)
      refine lv_iconst (v := (0 : Int32)) hx hb dX8_seasons_33 (by decide) ?_
      refine lv_istore_n (lv' := [(3, .int (0 : Int32)), (2, .int (0 : Int32)), (0, .ref (ad Γ.2.2.1 p0)), (1, .int v1)]) hx hb dX8_seasons_34 rfl hl (by decide) rfl (fun ls hl => ?_)
      refine w_X8_seasons_L35 C0 hr hlocks p0 v1 FU (0 : Int32) (0 : Int32) d hf _ _ _ hH (lv_sub hl [2, 3, 1, 0] rfl)
    · replace hf := ie hf c9
      refine lv_bipush (v := (-2 : Int32)) hx hb dX8_seasons_28 (by decide) ?_
      obtain rfl := Option.some.inj hf
      exact r_iret (d' := d) C0 hr hlocks hH rfl dX8_seasons_30
  · replace hf := it hf c4
    refine lv_iconst (v := (-1 : Int32)) hx hb dX8_seasons_11 (by decide) ?_
    obtain rfl := Option.some.inj hf
    exact r_iret (d' := d) C0 hr hlocks hH rfl dX8_seasons_12
theorem dX8_fittingGifts_0 : decode cX8_fittingGifts 0 = .ok (.iconst 0, 1) := by decide +kernel
theorem dX8_fittingGifts_1 : decode cX8_fittingGifts 1 = .ok (.istore_n 2, 1) := by decide +kernel
theorem dX8_fittingGifts_2 : decode cX8_fittingGifts 2 = .ok (.iconst 0, 1) := by decide +kernel
theorem dX8_fittingGifts_3 : decode cX8_fittingGifts 3 = .ok (.istore_n 3, 1) := by decide +kernel
theorem dX8_fittingGifts_4 : decode cX8_fittingGifts 4 = .ok (.iload_n 3, 1) := by decide +kernel
theorem dX8_fittingGifts_5 : decode cX8_fittingGifts 5 = .ok (.bipush 9, 2) := by decide +kernel
theorem dX8_fittingGifts_7 : decode cX8_fittingGifts 7 = .ok (.if_icmp .gt 49, 3) := by decide +kernel
theorem dX8_fittingGifts_10 : decode cX8_fittingGifts 10 = .ok (.aload_n 0, 1) := by decide +kernel
theorem dX8_fittingGifts_11 : decode cX8_fittingGifts 11 = .ok (.getfield 28, 3) := by decide +kernel
theorem dX8_fittingGifts_14 : decode cX8_fittingGifts 14 = .ok (.aload_n 0, 1) := by decide +kernel
theorem dX8_fittingGifts_15 : decode cX8_fittingGifts 15 = .ok (.getfield 24, 3) := by decide +kernel
theorem dX8_fittingGifts_18 : decode cX8_fittingGifts 18 = .ok (.invokevirtual 87, 3) := by decide +kernel
theorem dX8_fittingGifts_21 : decode cX8_fittingGifts 21 = .ok (.aload_n 0, 1) := by decide +kernel
theorem dX8_fittingGifts_22 : decode cX8_fittingGifts 22 = .ok (.getfield 28, 3) := by decide +kernel
theorem dX8_fittingGifts_25 : decode cX8_fittingGifts 25 = .ok (.getfield 137, 3) := by decide +kernel
theorem dX8_fittingGifts_28 : decode cX8_fittingGifts 28 = .ok (.iload_n 1, 1) := by decide +kernel
theorem dX8_fittingGifts_29 : decode cX8_fittingGifts 29 = .ok (.aaload, 1) := by decide +kernel
theorem dX8_fittingGifts_30 : decode cX8_fittingGifts 30 = .ok (.iload_n 3, 1) := by decide +kernel
theorem dX8_fittingGifts_31 : decode cX8_fittingGifts 31 = .ok (.putfield 141, 3) := by decide +kernel
theorem dX8_fittingGifts_34 : decode cX8_fittingGifts 34 = .ok (.aload_n 0, 1) := by decide +kernel
theorem dX8_fittingGifts_35 : decode cX8_fittingGifts 35 = .ok (.getfield 28, 3) := by decide +kernel
theorem dX8_fittingGifts_38 : decode cX8_fittingGifts 38 = .ok (.invokevirtual 253, 3) := by decide +kernel
theorem dX8_fittingGifts_41 : decode cX8_fittingGifts 41 = .ok (.ifCond .eq 9, 3) := by decide +kernel
theorem dX8_fittingGifts_44 : decode cX8_fittingGifts 44 = .ok (.iload_n 2, 1) := by decide +kernel
theorem dX8_fittingGifts_45 : decode cX8_fittingGifts 45 = .ok (.iconst 1, 1) := by decide +kernel
theorem dX8_fittingGifts_46 : decode cX8_fittingGifts 46 = .ok (.iload_n 3, 1) := by decide +kernel
theorem dX8_fittingGifts_47 : decode cX8_fittingGifts 47 = .ok (.ishl, 1) := by decide +kernel
theorem dX8_fittingGifts_48 : decode cX8_fittingGifts 48 = .ok (.ior, 1) := by decide +kernel
theorem dX8_fittingGifts_49 : decode cX8_fittingGifts 49 = .ok (.istore_n 2, 1) := by decide +kernel
theorem dX8_fittingGifts_50 : decode cX8_fittingGifts 50 = .ok (.iinc 3 1, 3) := by decide +kernel
theorem dX8_fittingGifts_53 : decode cX8_fittingGifts 53 = .ok (.goto (-49), 3) := by decide +kernel
theorem dX8_fittingGifts_56 : decode cX8_fittingGifts 56 = .ok (.iload_n 2, 1) := by decide +kernel
theorem dX8_fittingGifts_57 : decode cX8_fittingGifts 57 = .ok (.ireturn, 1) := by decide +kernel
def f_X8_fittingGifts_L4 (Λ : List Ly) (p0 : Nat) (v1 : Int32) : Nat → Int32 → Int32 → Dt → Option (Int32 × Dt)
  | 0, _, _, _ => none
  | n + 1, v2, v3, d => if (9 : Int32) < v3 then (some (v2, d)) else (Option.bind (rf Λ p0 8 3) fun q2 => Option.bind (rf Λ p0 8 2) fun q3 => if clsAt Λ q2 = some 7 then (Option.bind (f_X7_copy Λ d q2 q3) fun z5 => Option.bind (rf Λ q2 7 0) fun q6 => Option.bind (ra Λ q6 5 v1) fun q7 => if clsAt Λ q7 = some 4 then (Option.bind (f_X7_comesAsSeen Λ (pI z5 q7 1 v3) q2) fun z9 => if z9.1 = 0 then (f_X8_fittingGifts_L4 Λ p0 v1 n v2 (v3 + (1 : Int32)) z9.2) else (f_X8_fittingGifts_L4 Λ p0 v1 n (v2 ||| ((1 : Int32) <<< (v3 &&& 31))) (v3 + (1 : Int32)) z9.2)) else none) else none)
def f_X8_fittingGifts (Λ : List Ly) (d : Dt) (p0 : Nat) (v1 : Int32) : Option (Int32 × Dt) := f_X8_fittingGifts_L4 Λ p0 v1 FU (0 : Int32) (0 : Int32) d
set_option maxHeartbeats 4000000 in
set_option maxRecDepth 100000 in
theorem w_X8_fittingGifts_L4 {p : Program} {l : Launch} {e : Env} {s : State} {m : MethodId} {args : Array Value} {below : List Frame} {meth : Method} {c : Code} {Γ : Cx} {Λ : List Ly} {z : Int32 × Dt} (C0 : Ct Γ p s m args c cX8_fittingGifts 4 "SeasonBound") (hr : meth.sig.returnType = (some FieldType.int)) (hlocks : meth.locks = false) (p0 : Nat) (v1 : Int32) :
    ∀ (n : Nat) (v2 : Int32) (v3 : Int32) (d : Dt), f_X8_fittingGifts_L4 Λ p0 v1 n v2 v3 d = some z → ∀ (H : Heap) (locs : List Loc) (ls : Array Slot), Hs Γ Λ d s H locs → lv_has ls 4 [(0, .ref (ad Γ.2.2.1 p0)), (1, .int v1), (2, .int v2), (3, .int v3)] → W p l e { frames := 5, cells := 0, slots := 0, locals := 107 } s m args below meth c H locs 0 0 (MQ below (QN Γ Λ z.2 (some (.int z.1))) args s 0 0 (AP Γ)) (F0 m 4 ls []) := by
  obtain ⟨hx, hb, hml, hown, hts, hK⟩ := id C0
  intro n
  induction n with
  | zero =>
    intro v2 v3 d hf
    cases hf
  | succ n ih =>
    intro v2 v3 d hf H locs ls hH hl
    unfold f_X8_fittingGifts_L4 at hf
    refine lv_iload_n hx hb dX8_fittingGifts_4 rfl (lv_at hl 3 rfl) ?_
    refine lv_bipush (v := (9 : Int32)) hx hb dX8_fittingGifts_5 (by decide) ?_
    refine lv_icmp_gt (tgt := 56) hx hb dX8_fittingGifts_7 (by decide) (fun c1 => ?_) (fun c1 => ?_)
    · replace hf := it hf c1
      refine lv_iload_n hx hb dX8_fittingGifts_56 rfl (lv_at hl 2 rfl) ?_
      obtain rfl := Option.some.inj hf
      exact r_iret (d' := d) C0 hr hlocks hH rfl dX8_fittingGifts_57
    · replace hf := ie hf c1
      refine lv_aload_n hx hb dX8_fittingGifts_10 rfl (lv_at hl 0 rfl) ?_
      obtain ⟨q2, g2, hf⟩ := ob hf
      refine r_getr C0 hH fl_X8_28 g2 dX8_fittingGifts_11 ?_
      refine lv_aload_n hx hb dX8_fittingGifts_14 rfl (lv_at hl 0 rfl) ?_
      obtain ⟨q3, g3, hf⟩ := ob hf
      refine r_getr C0 hH fl_X8_24 g3 dX8_fittingGifts_15 ?_
      obtain ⟨g4, hf⟩ := gd hf
      obtain ⟨z5, h5, hf⟩ := ob hf
      refine r_callVv (rest := []) C0 hH (c_X7_copy Γ l Λ d q2 q3 z5 h5) cv_X8_87 g4 (by decide) rfl hl.1 rfl (Nat.le_of_ble_eq_true rfl) dX8_fittingGifts_18 (by decide) (fun H locs hH => ?_)
      refine lv_aload_n hx hb dX8_fittingGifts_21 rfl (lv_at hl 0 rfl) ?_
      refine r_getr C0 hH fl_X8_28 g2 dX8_fittingGifts_22 ?_
      obtain ⟨q6, g6, hf⟩ := ob hf
      refine r_getr C0 hH fl_X8_137 g6 dX8_fittingGifts_25 ?_
      refine lv_iload_n hx hb dX8_fittingGifts_28 rfl (lv_at hl 1 rfl) ?_
      obtain ⟨q7, g7, hf⟩ := ob hf
      refine r_aald (C := "SeasonBound$Season") C0 hH g7 (by decide) rfl dX8_fittingGifts_29 ?_
      refine lv_iload_n hx hb dX8_fittingGifts_30 rfl (lv_at hl 3 rfl) ?_
      obtain ⟨g8, hf⟩ := gd hf
      refine r_puti C0 hH fw_X8_141 g8 rfl dX8_fittingGifts_31 (fun H locs hH => ?_)
      refine lv_aload_n hx hb dX8_fittingGifts_34 rfl (lv_at hl 0 rfl) ?_
      refine r_getr C0 hH fl_X8_28 g2 dX8_fittingGifts_35 ?_
      obtain ⟨z9, h9, hf⟩ := ob hf
      refine r_callVi (rest := []) C0 hH (c_X7_comesAsSeen Γ l Λ (pI z5 q7 1 v3) q2 z9 h9) cv_X8_253 g4 (by decide) rfl hl.1 rfl (Nat.le_of_ble_eq_true rfl) dX8_fittingGifts_38 (by decide) (fun H locs hH => ?_)
      refine lv_if_eq (tgt := 50) hx hb dX8_fittingGifts_41 (by decide) (fun c10 => ?_) (fun c10 => ?_)
      · replace hf := it hf c10
        refine lv_iinc (v := (v3 + (1 : Int32))) (lv' := [(3, .int (v3 + (1 : Int32))), (0, .ref (ad Γ.2.2.1 p0)), (1, .int v1), (2, .int v2)]) hx hb dX8_fittingGifts_50 hl (k := 3) rfl (congrArg (fun w => v3 + w) (by decide)) (by decide) rfl (fun ls hl => ?_)
        refine lv_goto (tgt := 4) hx hb dX8_fittingGifts_53 (by decide) ?_
        exact ih v2 (v3 + (1 : Int32)) z9.2 hf _ _ _ hH (lv_sub hl [1, 2, 3, 0] rfl)
      · replace hf := ie hf c10
        refine lv_iload_n hx hb dX8_fittingGifts_44 rfl (lv_at hl 2 rfl) ?_
        refine lv_iconst (v := (1 : Int32)) hx hb dX8_fittingGifts_45 (by decide) ?_
        refine lv_iload_n hx hb dX8_fittingGifts_46 rfl (lv_at hl 3 rfl) ?_
        refine lv_ishl hx hb dX8_fittingGifts_47 ?_
        refine lv_ior hx hb dX8_fittingGifts_48 ?_
        refine lv_istore_n (lv' := [(2, .int (v2 ||| ((1 : Int32) <<< (v3 &&& 31)))), (0, .ref (ad Γ.2.2.1 p0)), (1, .int v1), (3, .int v3)]) hx hb dX8_fittingGifts_49 rfl hl (by decide) rfl (fun ls hl => ?_)
        refine lv_iinc (v := (v3 + (1 : Int32))) (lv' := [(3, .int (v3 + (1 : Int32))), (2, .int (v2 ||| ((1 : Int32) <<< (v3 &&& 31)))), (0, .ref (ad Γ.2.2.1 p0)), (1, .int v1)]) hx hb dX8_fittingGifts_50 hl (k := 3) rfl (congrArg (fun w => v3 + w) (by decide)) (by decide) rfl (fun ls hl => ?_)
        refine lv_goto (tgt := 4) hx hb dX8_fittingGifts_53 (by decide) ?_
        exact ih (v2 ||| ((1 : Int32) <<< (v3 &&& 31))) (v3 + (1 : Int32)) z9.2 hf _ _ _ hH (lv_sub hl [2, 3, 1, 0] rfl)
set_option maxHeartbeats 4000000 in
set_option maxRecDepth 100000 in
theorem c_X8_fittingGifts (Γ : Cx) (l : Launch) (Λ : List Ly) (d : Dt) (p0 : Nat) (v1 : Int32) (z : Int32 × Dt) (hf : f_X8_fittingGifts Λ d p0 v1 = some z) : Cn Γ l yX8_fittingGifts cX8_fittingGifts 4 (some FieldType.int) 5 107 [.ref (ad Γ.2.2.1 p0), .int v1] Λ d (some (.int z.1)) z.2 := by
  refine Cn.of (own := "SeasonBound") (by decide +kernel) rfl (Nat.le_of_ble_eq_true rfl) ?_
  intro p e s m below meth c C0 hr hlocks hH ls hl
  have hl : lv_has ls 4 [(0, .ref (ad Γ.2.2.1 p0)), (1, .int v1)] := hl
  obtain ⟨hx, hb, hml, hown, hts, hK⟩ := id C0
  unfold f_X8_fittingGifts at hf
  refine lv_iconst (v := (0 : Int32)) hx hb dX8_fittingGifts_0 (by decide) ?_
  refine lv_istore_n (lv' := [(2, .int (0 : Int32)), (0, .ref (ad Γ.2.2.1 p0)), (1, .int v1)]) hx hb dX8_fittingGifts_1 rfl hl (by decide) rfl (fun ls hl => ?_)
  refine lv_iconst (v := (0 : Int32)) hx hb dX8_fittingGifts_2 (by decide) ?_
  refine lv_istore_n (lv' := [(3, .int (0 : Int32)), (2, .int (0 : Int32)), (0, .ref (ad Γ.2.2.1 p0)), (1, .int v1)]) hx hb dX8_fittingGifts_3 rfl hl (by decide) rfl (fun ls hl => ?_)
  refine w_X8_fittingGifts_L4 C0 hr hlocks p0 v1 FU (0 : Int32) (0 : Int32) d hf _ _ _ hH (lv_sub hl [2, 3, 1, 0] rfl)
theorem dX8_gifts_0 : decode cX8_gifts 0 = .ok (.iload_n 1, 1) := by decide +kernel
theorem dX8_gifts_1 : decode cX8_gifts 1 = .ok (.invokestatic 150, 3) := by decide +kernel
theorem dX8_gifts_4 : decode cX8_gifts 4 = .ok (.ifCond .eq 11, 3) := by decide +kernel
theorem dX8_gifts_7 : decode cX8_gifts 7 = .ok (.aload_n 0, 1) := by decide +kernel
theorem dX8_gifts_8 : decode cX8_gifts 8 = .ok (.iload_n 1, 1) := by decide +kernel
theorem dX8_gifts_9 : decode cX8_gifts 9 = .ok (.invokevirtual 256, 3) := by decide +kernel
theorem dX8_gifts_12 : decode cX8_gifts 12 = .ok (.goto 4, 3) := by decide +kernel
theorem dX8_gifts_15 : decode cX8_gifts 15 = .ok (.iconst (-1), 1) := by decide +kernel
theorem dX8_gifts_16 : decode cX8_gifts 16 = .ok (.ireturn, 1) := by decide +kernel
def f_X8_gifts (Λ : List Ly) (d : Dt) (p0 : Nat) (v1 : Int32) : Option (Int32 × Dt) := if (f_X8_isSeason v1) = 0 then (some ((-1 : Int32), d)) else (if clsAt Λ p0 = some 8 then (Option.bind (f_X8_fittingGifts Λ d p0 v1) fun z3 => some (z3.1, z3.2)) else none)
set_option maxHeartbeats 4000000 in
set_option maxRecDepth 100000 in
theorem c_X8_gifts (Γ : Cx) (l : Launch) (Λ : List Ly) (d : Dt) (p0 : Nat) (v1 : Int32) (z : Int32 × Dt) (hf : f_X8_gifts Λ d p0 v1 = some z) : Cn Γ l yX8_gifts cX8_gifts 2 (some FieldType.int) 6 130 [.ref (ad Γ.2.2.1 p0), .int v1] Λ d (some (.int z.1)) z.2 := by
  refine Cn.of (own := "SeasonBound") (by decide +kernel) rfl (Nat.le_of_ble_eq_true rfl) ?_
  intro p e s m below meth c C0 hr hlocks hH ls hl
  have hl : lv_has ls 2 [(0, .ref (ad Γ.2.2.1 p0)), (1, .int v1)] := hl
  obtain ⟨hx, hb, hml, hown, hts, hK⟩ := id C0
  unfold f_X8_gifts at hf
  refine lv_iload_n hx hb dX8_gifts_0 rfl (lv_at hl 1 rfl) ?_
  refine r_callSi (rest := []) C0 hH (c_X8_isSeason Γ l Λ d v1) cs_X8_150 (by decide) rfl hl.1 rfl (Nat.le_of_ble_eq_true rfl) dX8_gifts_1 (by decide) (fun H locs hH => ?_)
  refine lv_if_eq (tgt := 15) hx hb dX8_gifts_4 (by decide) (fun c1 => ?_) (fun c1 => ?_)
  · replace hf := it hf c1
    refine lv_iconst (v := (-1 : Int32)) hx hb dX8_gifts_15 (by decide) ?_
    obtain rfl := Option.some.inj hf
    exact r_iret (d' := d) C0 hr hlocks hH rfl dX8_gifts_16
  · replace hf := ie hf c1
    refine lv_aload_n hx hb dX8_gifts_7 rfl (lv_at hl 0 rfl) ?_
    refine lv_iload_n hx hb dX8_gifts_8 rfl (lv_at hl 1 rfl) ?_
    obtain ⟨g2, hf⟩ := gd hf
    obtain ⟨z3, h3, hf⟩ := ob hf
    refine r_callVi (rest := []) C0 hH (c_X8_fittingGifts Γ l Λ d p0 v1 z3 h3) cv_X8_256 g2 (by decide) rfl hl.1 rfl (Nat.le_of_ble_eq_true rfl) dX8_gifts_9 (by decide) (fun H locs hH => ?_)
    refine lv_goto (tgt := 16) hx hb dX8_gifts_12 (by decide) ?_
    obtain rfl := Option.some.inj hf
    exact r_iret (d' := d) C0 hr hlocks hH rfl dX8_gifts_16
theorem dX8_mostAlike_0 : decode cX8_mostAlike 0 = .ok (.aload_n 0, 1) := by decide +kernel
theorem dX8_mostAlike_1 : decode cX8_mostAlike 1 = .ok (.getfield 24, 3) := by decide +kernel
theorem dX8_mostAlike_4 : decode cX8_mostAlike 4 = .ok (.getfield 112, 3) := by decide +kernel
theorem dX8_mostAlike_7 : decode cX8_mostAlike 7 = .ok (.iload_n 3, 1) := by decide +kernel
theorem dX8_mostAlike_8 : decode cX8_mostAlike 8 = .ok (.aaload, 1) := by decide +kernel
theorem dX8_mostAlike_9 : decode cX8_mostAlike 9 = .ok (.astore 4, 2) := by decide +kernel
theorem dX8_mostAlike_11 : decode cX8_mostAlike 11 = .ok (.aload_n 0, 1) := by decide +kernel
theorem dX8_mostAlike_12 : decode cX8_mostAlike 12 = .ok (.iload_n 3, 1) := by decide +kernel
theorem dX8_mostAlike_13 : decode cX8_mostAlike 13 = .ok (.invokevirtual 220, 3) := by decide +kernel
theorem dX8_mostAlike_16 : decode cX8_mostAlike 16 = .ok (.istore 5, 2) := by decide +kernel
theorem dX8_mostAlike_18 : decode cX8_mostAlike 18 = .ok (.iconst 0, 1) := by decide +kernel
theorem dX8_mostAlike_19 : decode cX8_mostAlike 19 = .ok (.istore 6, 2) := by decide +kernel
theorem dX8_mostAlike_21 : decode cX8_mostAlike 21 = .ok (.iconst 0, 1) := by decide +kernel
theorem dX8_mostAlike_22 : decode cX8_mostAlike 22 = .ok (.istore 7, 2) := by decide +kernel
theorem dX8_mostAlike_24 : decode cX8_mostAlike 24 = .ok (.bipush (-4), 2) := by decide +kernel
theorem dX8_mostAlike_26 : decode cX8_mostAlike 26 = .ok (.istore 8, 2) := by decide +kernel
theorem dX8_mostAlike_28 : decode cX8_mostAlike 28 = .ok (.iconst 0, 1) := by decide +kernel
theorem dX8_mostAlike_29 : decode cX8_mostAlike 29 = .ok (.istore 9, 2) := by decide +kernel
theorem dX8_mostAlike_31 : decode cX8_mostAlike 31 = .ok (.iload 9, 2) := by decide +kernel
theorem dX8_mostAlike_33 : decode cX8_mostAlike 33 = .ok (.bipush 9, 2) := by decide +kernel
theorem dX8_mostAlike_35 : decode cX8_mostAlike 35 = .ok (.if_icmp .gt 83, 3) := by decide +kernel
theorem dX8_mostAlike_38 : decode cX8_mostAlike 38 = .ok (.iload_n 2, 1) := by decide +kernel
theorem dX8_mostAlike_39 : decode cX8_mostAlike 39 = .ok (.iconst 1, 1) := by decide +kernel
theorem dX8_mostAlike_40 : decode cX8_mostAlike 40 = .ok (.iload 9, 2) := by decide +kernel
theorem dX8_mostAlike_42 : decode cX8_mostAlike 42 = .ok (.ishl, 1) := by decide +kernel
theorem dX8_mostAlike_43 : decode cX8_mostAlike 43 = .ok (.iand, 1) := by decide +kernel
theorem dX8_mostAlike_44 : decode cX8_mostAlike 44 = .ok (.ifCond .eq 68, 3) := by decide +kernel
theorem dX8_mostAlike_47 : decode cX8_mostAlike 47 = .ok (.aload 4, 2) := by decide +kernel
theorem dX8_mostAlike_49 : decode cX8_mostAlike 49 = .ok (.getfield 131, 3) := by decide +kernel
theorem dX8_mostAlike_52 : decode cX8_mostAlike 52 = .ok (.iload 5, 2) := by decide +kernel
theorem dX8_mostAlike_54 : decode cX8_mostAlike 54 = .ok (.aload 4, 2) := by decide +kernel
theorem dX8_mostAlike_56 : decode cX8_mostAlike 56 = .ok (.getfield 116, 3) := by decide +kernel
theorem dX8_mostAlike_59 : decode cX8_mostAlike 59 = .ok (.iload 9, 2) := by decide +kernel
theorem dX8_mostAlike_61 : decode cX8_mostAlike 61 = .ok (.invokestatic 146, 3) := by decide +kernel
theorem dX8_mostAlike_64 : decode cX8_mostAlike 64 = .ok (.imul, 1) := by decide +kernel
theorem dX8_mostAlike_65 : decode cX8_mostAlike 65 = .ok (.aload_n 0, 1) := by decide +kernel
theorem dX8_mostAlike_66 : decode cX8_mostAlike 66 = .ok (.getfield 24, 3) := by decide +kernel
theorem dX8_mostAlike_69 : decode cX8_mostAlike 69 = .ok (.getfield 137, 3) := by decide +kernel
theorem dX8_mostAlike_72 : decode cX8_mostAlike 72 = .ok (.iload_n 1, 1) := by decide +kernel
theorem dX8_mostAlike_73 : decode cX8_mostAlike 73 = .ok (.aaload, 1) := by decide +kernel
theorem dX8_mostAlike_74 : decode cX8_mostAlike 74 = .ok (.getfield 156, 3) := by decide +kernel
theorem dX8_mostAlike_77 : decode cX8_mostAlike 77 = .ok (.invokestatic 270, 3) := by decide +kernel
theorem dX8_mostAlike_80 : decode cX8_mostAlike 80 = .ok (.istore 10, 2) := by decide +kernel
theorem dX8_mostAlike_82 : decode cX8_mostAlike 82 = .ok (.iload 10, 2) := by decide +kernel
theorem dX8_mostAlike_84 : decode cX8_mostAlike 84 = .ok (.iload 8, 2) := by decide +kernel
theorem dX8_mostAlike_86 : decode cX8_mostAlike 86 = .ok (.if_icmp .ne 10, 3) := by decide +kernel
theorem dX8_mostAlike_89 : decode cX8_mostAlike 89 = .ok (.iload 7, 2) := by decide +kernel
theorem dX8_mostAlike_91 : decode cX8_mostAlike 91 = .ok (.iconst 1, 1) := by decide +kernel
theorem dX8_mostAlike_92 : decode cX8_mostAlike 92 = .ok (.iadd, 1) := by decide +kernel
theorem dX8_mostAlike_93 : decode cX8_mostAlike 93 = .ok (.goto 4, 3) := by decide +kernel
theorem dX8_mostAlike_96 : decode cX8_mostAlike 96 = .ok (.iconst 1, 1) := by decide +kernel
theorem dX8_mostAlike_97 : decode cX8_mostAlike 97 = .ok (.istore 7, 2) := by decide +kernel
theorem dX8_mostAlike_99 : decode cX8_mostAlike 99 = .ok (.iload 10, 2) := by decide +kernel
theorem dX8_mostAlike_101 : decode cX8_mostAlike 101 = .ok (.istore 8, 2) := by decide +kernel
theorem dX8_mostAlike_103 : decode cX8_mostAlike 103 = .ok (.iload 6, 2) := by decide +kernel
theorem dX8_mostAlike_105 : decode cX8_mostAlike 105 = .ok (.iload 7, 2) := by decide +kernel
theorem dX8_mostAlike_107 : decode cX8_mostAlike 107 = .ok (.invokestatic 210, 3) := by decide +kernel
theorem dX8_mostAlike_110 : decode cX8_mostAlike 110 = .ok (.istore 6, 2) := by decide +kernel
theorem dX8_mostAlike_112 : decode cX8_mostAlike 112 = .ok (.iinc 9 1, 3) := by decide +kernel
theorem dX8_mostAlike_115 : decode cX8_mostAlike 115 = .ok (.goto (-84), 3) := by decide +kernel
theorem dX8_mostAlike_118 : decode cX8_mostAlike 118 = .ok (.iload 6, 2) := by decide +kernel
theorem dX8_mostAlike_120 : decode cX8_mostAlike 120 = .ok (.ireturn, 1) := by decide +kernel
def f_X8_mostAlike_L31 (Λ : List Ly) (d : Dt) (p0 : Nat) (v1 : Int32) (v2 : Int32) (p4 : Nat) (v5 : Int32) : Nat → Int32 → Int32 → Int32 → Int32 → Option Int32
  | 0, _, _, _, _ => none
  | n + 1, v6, v7, v8, v9 => if (9 : Int32) < v9 then (some v6) else (if (v2 &&& ((1 : Int32) <<< (v9 &&& 31))) = 0 then (f_X8_mostAlike_L31 Λ d p0 v1 v2 p4 v5 n v6 v7 v8 (v9 + (1 : Int32))) else (if clsAt Λ p4 = some 1 then (Option.bind (rf Λ p0 8 2) fun q9 => Option.bind (rf Λ q9 7 0) fun q10 => Option.bind (ra Λ q10 5 v1) fun q11 => if clsAt Λ q11 = some 4 then (if (f_X8_raised (d.1 p4 3) (v5 * (f_X8_learns (d.1 p4 0) v9)) (d.1 q11 2)) = v8 then (f_X8_mostAlike_L31 Λ d p0 v1 v2 p4 v5 n (jmax v6 (v7 + (1 : Int32))) (v7 + (1 : Int32)) (f_X8_raised (d.1 p4 3) (v5 * (f_X8_learns (d.1 p4 0) v9)) (d.1 q11 2)) (v9 + (1 : Int32))) else (f_X8_mostAlike_L31 Λ d p0 v1 v2 p4 v5 n (jmax v6 (1 : Int32)) (1 : Int32) (f_X8_raised (d.1 p4 3) (v5 * (f_X8_learns (d.1 p4 0) v9)) (d.1 q11 2)) (v9 + (1 : Int32)))) else none) else none))
def f_X8_mostAlike (Λ : List Ly) (d : Dt) (p0 : Nat) (v1 : Int32) (v2 : Int32) (v3 : Int32) : Option Int32 := Option.bind (rf Λ p0 8 2) fun q1 => Option.bind (rf Λ q1 7 1) fun q2 => Option.bind (ra Λ q2 4 v3) fun q3 => if clsAt Λ p0 = some 8 then (Option.bind (f_X8_lessonsInTrial Λ d p0 v3) fun z5 => f_X8_mostAlike_L31 Λ d p0 v1 v2 q3 z5 FU (0 : Int32) (0 : Int32) (-4 : Int32) (0 : Int32)) else none
set_option maxHeartbeats 4000000 in
set_option maxRecDepth 100000 in
theorem w_X8_mostAlike_L31 {p : Program} {l : Launch} {e : Env} {s : State} {m : MethodId} {args : Array Value} {below : List Frame} {meth : Method} {c : Code} {Γ : Cx} {Λ : List Ly} {z : Int32} {d : Dt} (C0 : Ct Γ p s m args c cX8_mostAlike 11 "SeasonBound") (hr : meth.sig.returnType = (some FieldType.int)) (hlocks : meth.locks = false) (p0 : Nat) (v1 : Int32) (v2 : Int32) (p4 : Nat) (v5 : Int32) :
    ∀ (n : Nat) (v6 : Int32) (v7 : Int32) (v8 : Int32) (v9 : Int32), f_X8_mostAlike_L31 Λ d p0 v1 v2 p4 v5 n v6 v7 v8 v9 = some z → ∀ (H : Heap) (locs : List Loc) (ls : Array Slot), Hs Γ Λ d s H locs → lv_has ls 11 [(0, .ref (ad Γ.2.2.1 p0)), (1, .int v1), (2, .int v2), (4, .ref (ad Γ.2.2.1 p4)), (5, .int v5), (6, .int v6), (7, .int v7), (8, .int v8), (9, .int v9)] → W p l e { frames := 2, cells := 0, slots := 0, locals := 43 } s m args below meth c H locs 0 0 (MQ below (QN Γ Λ d (some (.int z))) args s 0 0 (AP Γ)) (F0 m 31 ls []) := by
  obtain ⟨hx, hb, hml, hown, hts, hK⟩ := id C0
  intro n
  induction n with
  | zero =>
    intro v6 v7 v8 v9 hf
    cases hf
  | succ n ih =>
    intro v6 v7 v8 v9 hf H locs ls hH hl
    unfold f_X8_mostAlike_L31 at hf
    refine lv_iload hx hb dX8_mostAlike_31 (lv_at hl 8 rfl) ?_
    refine lv_bipush (v := (9 : Int32)) hx hb dX8_mostAlike_33 (by decide) ?_
    refine lv_icmp_gt (tgt := 118) hx hb dX8_mostAlike_35 (by decide) (fun c6 => ?_) (fun c6 => ?_)
    · replace hf := it hf c6
      refine lv_iload hx hb dX8_mostAlike_118 (lv_at hl 5 rfl) ?_
      obtain rfl := Option.some.inj hf
      exact r_iret (d' := d) C0 hr hlocks hH rfl dX8_mostAlike_120
    · replace hf := ie hf c6
      refine lv_iload_n hx hb dX8_mostAlike_38 rfl (lv_at hl 2 rfl) ?_
      refine lv_iconst (v := (1 : Int32)) hx hb dX8_mostAlike_39 (by decide) ?_
      refine lv_iload hx hb dX8_mostAlike_40 (lv_at hl 8 rfl) ?_
      refine lv_ishl hx hb dX8_mostAlike_42 ?_
      refine lv_iand hx hb dX8_mostAlike_43 ?_
      refine lv_if_eq (tgt := 112) hx hb dX8_mostAlike_44 (by decide) (fun c7 => ?_) (fun c7 => ?_)
      · replace hf := it hf c7
        refine lv_iinc (v := (v9 + (1 : Int32))) (lv' := [(9, .int (v9 + (1 : Int32))), (0, .ref (ad Γ.2.2.1 p0)), (1, .int v1), (2, .int v2), (4, .ref (ad Γ.2.2.1 p4)), (5, .int v5), (6, .int v6), (7, .int v7), (8, .int v8)]) hx hb dX8_mostAlike_112 hl (k := 8) rfl (congrArg (fun w => v9 + w) (by decide)) (by decide) rfl (fun ls hl => ?_)
        refine lv_goto (tgt := 31) hx hb dX8_mostAlike_115 (by decide) ?_
        exact ih v6 v7 v8 (v9 + (1 : Int32)) hf _ _ _ hH (lv_sub hl [1, 2, 3, 4, 5, 6, 7, 8, 0] rfl)
      · replace hf := ie hf c7
        refine lv_aload hx hb dX8_mostAlike_47 (lv_at hl 3 rfl) ?_
        obtain ⟨g8, hf⟩ := gd hf
        refine r_geti C0 hH fl_X8_131 g8 rfl dX8_mostAlike_49 ?_
        refine lv_iload hx hb dX8_mostAlike_52 (lv_at hl 4 rfl) ?_
        refine lv_aload hx hb dX8_mostAlike_54 (lv_at hl 3 rfl) ?_
        refine r_geti C0 hH fl_X8_116 g8 rfl dX8_mostAlike_56 ?_
        refine lv_iload hx hb dX8_mostAlike_59 (lv_at hl 8 rfl) ?_
        refine r_callSi (rest := [.int v5, .int (d.1 p4 3)]) C0 hH (c_X8_learns Γ l Λ d (d.1 p4 0) v9) cs_X8_146 (by decide) rfl hl.1 rfl (Nat.le_of_ble_eq_true rfl) dX8_mostAlike_61 (by decide) (fun H locs hH => ?_)
        refine lv_imul hx hb dX8_mostAlike_64 ?_
        refine lv_aload_n hx hb dX8_mostAlike_65 rfl (lv_at hl 0 rfl) ?_
        obtain ⟨q9, g9, hf⟩ := ob hf
        refine r_getr C0 hH fl_X8_24 g9 dX8_mostAlike_66 ?_
        obtain ⟨q10, g10, hf⟩ := ob hf
        refine r_getr C0 hH fl_X8_137 g10 dX8_mostAlike_69 ?_
        refine lv_iload_n hx hb dX8_mostAlike_72 rfl (lv_at hl 1 rfl) ?_
        obtain ⟨q11, g11, hf⟩ := ob hf
        refine r_aald (C := "SeasonBound$Season") C0 hH g11 (by decide) rfl dX8_mostAlike_73 ?_
        obtain ⟨g12, hf⟩ := gd hf
        refine r_geti C0 hH fl_X8_156 g12 rfl dX8_mostAlike_74 ?_
        refine r_callSi (rest := []) C0 hH (c_X8_raised Γ l Λ d (d.1 p4 3) (v5 * (f_X8_learns (d.1 p4 0) v9)) (d.1 q11 2)) cs_X8_270 (by decide) rfl hl.1 rfl (Nat.le_of_ble_eq_true rfl) dX8_mostAlike_77 (by decide) (fun H locs hH => ?_)
        refine lv_istore (lv' := [(10, .int (f_X8_raised (d.1 p4 3) (v5 * (f_X8_learns (d.1 p4 0) v9)) (d.1 q11 2))), (0, .ref (ad Γ.2.2.1 p0)), (1, .int v1), (2, .int v2), (4, .ref (ad Γ.2.2.1 p4)), (5, .int v5), (6, .int v6), (7, .int v7), (8, .int v8), (9, .int v9)]) hx hb dX8_mostAlike_80 hl (by decide) rfl (fun ls hl => ?_)
        refine lv_iload hx hb dX8_mostAlike_82 (lv_at hl 0 rfl) ?_
        refine lv_iload hx hb dX8_mostAlike_84 (lv_at hl 8 rfl) ?_
        refine lv_icmp_ne (tgt := 96) hx hb dX8_mostAlike_86 (by decide) (fun c13 => ?_) (fun c13 => ?_)
        · replace hf := ie hf c13
          refine lv_iconst (v := (1 : Int32)) hx hb dX8_mostAlike_96 (by decide) ?_
          refine lv_istore (lv' := [(7, .int (1 : Int32)), (10, .int (f_X8_raised (d.1 p4 3) (v5 * (f_X8_learns (d.1 p4 0) v9)) (d.1 q11 2))), (0, .ref (ad Γ.2.2.1 p0)), (1, .int v1), (2, .int v2), (4, .ref (ad Γ.2.2.1 p4)), (5, .int v5), (6, .int v6), (8, .int v8), (9, .int v9)]) hx hb dX8_mostAlike_97 hl (by decide) rfl (fun ls hl => ?_)
          refine lv_iload hx hb dX8_mostAlike_99 (lv_at hl 1 rfl) ?_
          refine lv_istore (lv' := [(8, .int (f_X8_raised (d.1 p4 3) (v5 * (f_X8_learns (d.1 p4 0) v9)) (d.1 q11 2))), (7, .int (1 : Int32)), (10, .int (f_X8_raised (d.1 p4 3) (v5 * (f_X8_learns (d.1 p4 0) v9)) (d.1 q11 2))), (0, .ref (ad Γ.2.2.1 p0)), (1, .int v1), (2, .int v2), (4, .ref (ad Γ.2.2.1 p4)), (5, .int v5), (6, .int v6), (9, .int v9)]) hx hb dX8_mostAlike_101 hl (by decide) rfl (fun ls hl => ?_)
          refine lv_iload hx hb dX8_mostAlike_103 (lv_at hl 8 rfl) ?_
          refine lv_iload hx hb dX8_mostAlike_105 (lv_at hl 1 rfl) ?_
          refine r_jmax C0 hl.1 ml_X8_210 (by decide) (Nat.le_of_ble_eq_true rfl) (by decide) dX8_mostAlike_107 ?_
          refine lv_istore (lv' := [(6, .int (jmax v6 (1 : Int32))), (8, .int (f_X8_raised (d.1 p4 3) (v5 * (f_X8_learns (d.1 p4 0) v9)) (d.1 q11 2))), (7, .int (1 : Int32)), (10, .int (f_X8_raised (d.1 p4 3) (v5 * (f_X8_learns (d.1 p4 0) v9)) (d.1 q11 2))), (0, .ref (ad Γ.2.2.1 p0)), (1, .int v1), (2, .int v2), (4, .ref (ad Γ.2.2.1 p4)), (5, .int v5), (9, .int v9)]) hx hb dX8_mostAlike_110 hl (by decide) rfl (fun ls hl => ?_)
          refine lv_iinc (v := (v9 + (1 : Int32))) (lv' := [(9, .int (v9 + (1 : Int32))), (6, .int (jmax v6 (1 : Int32))), (8, .int (f_X8_raised (d.1 p4 3) (v5 * (f_X8_learns (d.1 p4 0) v9)) (d.1 q11 2))), (7, .int (1 : Int32)), (10, .int (f_X8_raised (d.1 p4 3) (v5 * (f_X8_learns (d.1 p4 0) v9)) (d.1 q11 2))), (0, .ref (ad Γ.2.2.1 p0)), (1, .int v1), (2, .int v2), (4, .ref (ad Γ.2.2.1 p4)), (5, .int v5)]) hx hb dX8_mostAlike_112 hl (k := 9) rfl (congrArg (fun w => v9 + w) (by decide)) (by decide) rfl (fun ls hl => ?_)
          refine lv_goto (tgt := 31) hx hb dX8_mostAlike_115 (by decide) ?_
          exact ih (jmax v6 (1 : Int32)) (1 : Int32) (f_X8_raised (d.1 p4 3) (v5 * (f_X8_learns (d.1 p4 0) v9)) (d.1 q11 2)) (v9 + (1 : Int32)) hf _ _ _ hH (lv_sub hl [5, 6, 7, 8, 9, 1, 3, 2, 0] rfl)
        · replace hf := it hf c13
          refine lv_iload hx hb dX8_mostAlike_89 (lv_at hl 7 rfl) ?_
          refine lv_iconst (v := (1 : Int32)) hx hb dX8_mostAlike_91 (by decide) ?_
          refine lv_iadd hx hb dX8_mostAlike_92 ?_
          refine lv_goto (tgt := 97) hx hb dX8_mostAlike_93 (by decide) ?_
          refine lv_istore (lv' := [(7, .int (v7 + (1 : Int32))), (10, .int (f_X8_raised (d.1 p4 3) (v5 * (f_X8_learns (d.1 p4 0) v9)) (d.1 q11 2))), (0, .ref (ad Γ.2.2.1 p0)), (1, .int v1), (2, .int v2), (4, .ref (ad Γ.2.2.1 p4)), (5, .int v5), (6, .int v6), (8, .int v8), (9, .int v9)]) hx hb dX8_mostAlike_97 hl (by decide) rfl (fun ls hl => ?_)
          refine lv_iload hx hb dX8_mostAlike_99 (lv_at hl 1 rfl) ?_
          refine lv_istore (lv' := [(8, .int (f_X8_raised (d.1 p4 3) (v5 * (f_X8_learns (d.1 p4 0) v9)) (d.1 q11 2))), (7, .int (v7 + (1 : Int32))), (10, .int (f_X8_raised (d.1 p4 3) (v5 * (f_X8_learns (d.1 p4 0) v9)) (d.1 q11 2))), (0, .ref (ad Γ.2.2.1 p0)), (1, .int v1), (2, .int v2), (4, .ref (ad Γ.2.2.1 p4)), (5, .int v5), (6, .int v6), (9, .int v9)]) hx hb dX8_mostAlike_101 hl (by decide) rfl (fun ls hl => ?_)
          refine lv_iload hx hb dX8_mostAlike_103 (lv_at hl 8 rfl) ?_
          refine lv_iload hx hb dX8_mostAlike_105 (lv_at hl 1 rfl) ?_
          refine r_jmax C0 hl.1 ml_X8_210 (by decide) (Nat.le_of_ble_eq_true rfl) (by decide) dX8_mostAlike_107 ?_
          refine lv_istore (lv' := [(6, .int (jmax v6 (v7 + (1 : Int32)))), (8, .int (f_X8_raised (d.1 p4 3) (v5 * (f_X8_learns (d.1 p4 0) v9)) (d.1 q11 2))), (7, .int (v7 + (1 : Int32))), (10, .int (f_X8_raised (d.1 p4 3) (v5 * (f_X8_learns (d.1 p4 0) v9)) (d.1 q11 2))), (0, .ref (ad Γ.2.2.1 p0)), (1, .int v1), (2, .int v2), (4, .ref (ad Γ.2.2.1 p4)), (5, .int v5), (9, .int v9)]) hx hb dX8_mostAlike_110 hl (by decide) rfl (fun ls hl => ?_)
          refine lv_iinc (v := (v9 + (1 : Int32))) (lv' := [(9, .int (v9 + (1 : Int32))), (6, .int (jmax v6 (v7 + (1 : Int32)))), (8, .int (f_X8_raised (d.1 p4 3) (v5 * (f_X8_learns (d.1 p4 0) v9)) (d.1 q11 2))), (7, .int (v7 + (1 : Int32))), (10, .int (f_X8_raised (d.1 p4 3) (v5 * (f_X8_learns (d.1 p4 0) v9)) (d.1 q11 2))), (0, .ref (ad Γ.2.2.1 p0)), (1, .int v1), (2, .int v2), (4, .ref (ad Γ.2.2.1 p4)), (5, .int v5)]) hx hb dX8_mostAlike_112 hl (k := 9) rfl (congrArg (fun w => v9 + w) (by decide)) (by decide) rfl (fun ls hl => ?_)
          refine lv_goto (tgt := 31) hx hb dX8_mostAlike_115 (by decide) ?_
          exact ih (jmax v6 (v7 + (1 : Int32))) (v7 + (1 : Int32)) (f_X8_raised (d.1 p4 3) (v5 * (f_X8_learns (d.1 p4 0) v9)) (d.1 q11 2)) (v9 + (1 : Int32)) hf _ _ _ hH (lv_sub hl [5, 6, 7, 8, 9, 1, 3, 2, 0] rfl)
set_option maxHeartbeats 4000000 in
set_option maxRecDepth 100000 in
theorem c_X8_mostAlike (Γ : Cx) (l : Launch) (Λ : List Ly) (d : Dt) (p0 : Nat) (v1 : Int32) (v2 : Int32) (v3 : Int32) (z : Int32) (hf : f_X8_mostAlike Λ d p0 v1 v2 v3 = some z) : Cn Γ l yX8_mostAlike cX8_mostAlike 11 (some FieldType.int) 2 43 [.ref (ad Γ.2.2.1 p0), .int v1, .int v2, .int v3] Λ d (some (.int z)) d := by
  refine Cn.of (own := "SeasonBound") (by decide +kernel) rfl (Nat.le_of_ble_eq_true rfl) ?_
  intro p e s m below meth c C0 hr hlocks hH ls hl
  have hl : lv_has ls 11 [(0, .ref (ad Γ.2.2.1 p0)), (1, .int v1), (2, .int v2), (3, .int v3)] := hl
  obtain ⟨hx, hb, hml, hown, hts, hK⟩ := id C0
  unfold f_X8_mostAlike at hf
  refine lv_aload_n hx hb dX8_mostAlike_0 rfl (lv_at hl 0 rfl) ?_
  obtain ⟨q1, g1, hf⟩ := ob hf
  refine r_getr C0 hH fl_X8_24 g1 dX8_mostAlike_1 ?_
  obtain ⟨q2, g2, hf⟩ := ob hf
  refine r_getr C0 hH fl_X8_112 g2 dX8_mostAlike_4 ?_
  refine lv_iload_n hx hb dX8_mostAlike_7 rfl (lv_at hl 3 rfl) ?_
  obtain ⟨q3, g3, hf⟩ := ob hf
  refine r_aald (C := "SeasonBound$Child") C0 hH g3 (by decide) rfl dX8_mostAlike_8 ?_
  refine lv_astore (lv' := [(4, .ref (ad Γ.2.2.1 q3)), (0, .ref (ad Γ.2.2.1 p0)), (1, .int v1), (2, .int v2), (3, .int v3)]) hx hb dX8_mostAlike_9 hl (by decide) rfl (fun ls hl => ?_)
  refine lv_aload_n hx hb dX8_mostAlike_11 rfl (lv_at hl 1 rfl) ?_
  refine lv_iload_n hx hb dX8_mostAlike_12 rfl (lv_at hl 4 rfl) ?_
  obtain ⟨g4, hf⟩ := gd hf
  obtain ⟨z5, h5, hf⟩ := ob hf
  refine r_callVi (rest := []) C0 hH (c_X8_lessonsInTrial Γ l Λ d p0 v3 z5 h5) cv_X8_220 g4 (by decide) rfl hl.1 rfl (Nat.le_of_ble_eq_true rfl) dX8_mostAlike_13 (by decide) (fun H locs hH => ?_)
  refine lv_istore (lv' := [(5, .int z5), (4, .ref (ad Γ.2.2.1 q3)), (0, .ref (ad Γ.2.2.1 p0)), (1, .int v1), (2, .int v2), (3, .int v3)]) hx hb dX8_mostAlike_16 hl (by decide) rfl (fun ls hl => ?_)
  refine lv_iconst (v := (0 : Int32)) hx hb dX8_mostAlike_18 (by decide) ?_
  refine lv_istore (lv' := [(6, .int (0 : Int32)), (5, .int z5), (4, .ref (ad Γ.2.2.1 q3)), (0, .ref (ad Γ.2.2.1 p0)), (1, .int v1), (2, .int v2), (3, .int v3)]) hx hb dX8_mostAlike_19 hl (by decide) rfl (fun ls hl => ?_)
  refine lv_iconst (v := (0 : Int32)) hx hb dX8_mostAlike_21 (by decide) ?_
  refine lv_istore (lv' := [(7, .int (0 : Int32)), (6, .int (0 : Int32)), (5, .int z5), (4, .ref (ad Γ.2.2.1 q3)), (0, .ref (ad Γ.2.2.1 p0)), (1, .int v1), (2, .int v2), (3, .int v3)]) hx hb dX8_mostAlike_22 hl (by decide) rfl (fun ls hl => ?_)
  refine lv_bipush (v := (-4 : Int32)) hx hb dX8_mostAlike_24 (by decide) ?_
  refine lv_istore (lv' := [(8, .int (-4 : Int32)), (7, .int (0 : Int32)), (6, .int (0 : Int32)), (5, .int z5), (4, .ref (ad Γ.2.2.1 q3)), (0, .ref (ad Γ.2.2.1 p0)), (1, .int v1), (2, .int v2), (3, .int v3)]) hx hb dX8_mostAlike_26 hl (by decide) rfl (fun ls hl => ?_)
  refine lv_iconst (v := (0 : Int32)) hx hb dX8_mostAlike_28 (by decide) ?_
  refine lv_istore (lv' := [(9, .int (0 : Int32)), (8, .int (-4 : Int32)), (7, .int (0 : Int32)), (6, .int (0 : Int32)), (5, .int z5), (4, .ref (ad Γ.2.2.1 q3)), (0, .ref (ad Γ.2.2.1 p0)), (1, .int v1), (2, .int v2), (3, .int v3)]) hx hb dX8_mostAlike_29 hl (by decide) rfl (fun ls hl => ?_)
  refine w_X8_mostAlike_L31 C0 hr hlocks p0 v1 v2 q3 z5 FU (0 : Int32) (0 : Int32) (-4 : Int32) (0 : Int32) hf _ _ _ hH (lv_sub hl [6, 7, 8, 5, 4, 3, 2, 1, 0] rfl)
theorem dX8_ask_0 : decode cX8_ask 0 = .ok (.iload_n 1, 1) := by decide +kernel
theorem dX8_ask_1 : decode cX8_ask 1 = .ok (.invokestatic 150, 3) := by decide +kernel
theorem dX8_ask_4 : decode cX8_ask 4 = .ok (.ifCond .eq 10, 3) := by decide +kernel
theorem dX8_ask_7 : decode cX8_ask 7 = .ok (.iload_n 2, 1) := by decide +kernel
theorem dX8_ask_8 : decode cX8_ask 8 = .ok (.invokestatic 188, 3) := by decide +kernel
theorem dX8_ask_11 : decode cX8_ask 11 = .ok (.ifCond .ne 5, 3) := by decide +kernel
theorem dX8_ask_14 : decode cX8_ask 14 = .ok (.iconst (-1), 1) := by decide +kernel
theorem dX8_ask_15 : decode cX8_ask 15 = .ok (.ireturn, 1) := by decide +kernel
theorem dX8_ask_16 : decode cX8_ask 16 = .ok (.aload_n 0, 1) := by decide +kernel
theorem dX8_ask_17 : decode cX8_ask 17 = .ok (.iload_n 1, 1) := by decide +kernel
theorem dX8_ask_18 : decode cX8_ask 18 = .ok (.invokevirtual 256, 3) := by decide +kernel
theorem dX8_ask_21 : decode cX8_ask 21 = .ok (.istore_n 3, 1) := by decide +kernel
theorem dX8_ask_22 : decode cX8_ask 22 = .ok (.iload_n 3, 1) := by decide +kernel
theorem dX8_ask_23 : decode cX8_ask 23 = .ok (.invokestatic 259, 3) := by decide +kernel
theorem dX8_ask_26 : decode cX8_ask 26 = .ok (.istore 4, 2) := by decide +kernel
theorem dX8_ask_28 : decode cX8_ask 28 = .ok (.bipush (-4), 2) := by decide +kernel
theorem dX8_ask_30 : decode cX8_ask 30 = .ok (.istore 5, 2) := by decide +kernel
theorem dX8_ask_32 : decode cX8_ask 32 = .ok (.aload_n 0, 1) := by decide +kernel
theorem dX8_ask_33 : decode cX8_ask 33 = .ok (.getfield 28, 3) := by decide +kernel
theorem dX8_ask_36 : decode cX8_ask 36 = .ok (.aload_n 0, 1) := by decide +kernel
theorem dX8_ask_37 : decode cX8_ask 37 = .ok (.getfield 24, 3) := by decide +kernel
theorem dX8_ask_40 : decode cX8_ask 40 = .ok (.invokevirtual 87, 3) := by decide +kernel
theorem dX8_ask_43 : decode cX8_ask 43 = .ok (.iconst 0, 1) := by decide +kernel
theorem dX8_ask_44 : decode cX8_ask 44 = .ok (.istore 6, 2) := by decide +kernel
theorem dX8_ask_46 : decode cX8_ask 46 = .ok (.iload 6, 2) := by decide +kernel
theorem dX8_ask_48 : decode cX8_ask 48 = .ok (.bipush 30, 2) := by decide +kernel
theorem dX8_ask_50 : decode cX8_ask 50 = .ok (.if_icmp .gt 91, 3) := by decide +kernel
theorem dX8_ask_53 : decode cX8_ask 53 = .ok (.iload 4, 2) := by decide +kernel
theorem dX8_ask_55 : decode cX8_ask 55 = .ok (.iconst 1, 1) := by decide +kernel
theorem dX8_ask_56 : decode cX8_ask 56 = .ok (.if_icmp .le 85, 3) := by decide +kernel
theorem dX8_ask_59 : decode cX8_ask 59 = .ok (.iconst 0, 1) := by decide +kernel
theorem dX8_ask_60 : decode cX8_ask 60 = .ok (.istore 7, 2) := by decide +kernel
theorem dX8_ask_62 : decode cX8_ask 62 = .ok (.iload 7, 2) := by decide +kernel
theorem dX8_ask_64 : decode cX8_ask 64 = .ok (.aload_n 0, 1) := by decide +kernel
theorem dX8_ask_65 : decode cX8_ask 65 = .ok (.getfield 24, 3) := by decide +kernel
theorem dX8_ask_68 : decode cX8_ask 68 = .ok (.getfield 91, 3) := by decide +kernel
theorem dX8_ask_71 : decode cX8_ask 71 = .ok (.if_icmp .ge 57, 3) := by decide +kernel
theorem dX8_ask_74 : decode cX8_ask 74 = .ok (.aload_n 0, 1) := by decide +kernel
theorem dX8_ask_75 : decode cX8_ask 75 = .ok (.getfield 24, 3) := by decide +kernel
theorem dX8_ask_78 : decode cX8_ask 78 = .ok (.getfield 112, 3) := by decide +kernel
theorem dX8_ask_81 : decode cX8_ask 81 = .ok (.iload 7, 2) := by decide +kernel
theorem dX8_ask_83 : decode cX8_ask 83 = .ok (.aaload, 1) := by decide +kernel
theorem dX8_ask_84 : decode cX8_ask 84 = .ok (.iload_n 1, 1) := by decide +kernel
theorem dX8_ask_85 : decode cX8_ask 85 = .ok (.invokevirtual 264, 3) := by decide +kernel
theorem dX8_ask_88 : decode cX8_ask 88 = .ok (.ifCond .eq 34, 3) := by decide +kernel
theorem dX8_ask_91 : decode cX8_ask 91 = .ok (.aload_n 0, 1) := by decide +kernel
theorem dX8_ask_92 : decode cX8_ask 92 = .ok (.iload_n 1, 1) := by decide +kernel
theorem dX8_ask_93 : decode cX8_ask 93 = .ok (.iload_n 3, 1) := by decide +kernel
theorem dX8_ask_94 : decode cX8_ask 94 = .ok (.iload 7, 2) := by decide +kernel
theorem dX8_ask_96 : decode cX8_ask 96 = .ok (.invokevirtual 267, 3) := by decide +kernel
theorem dX8_ask_99 : decode cX8_ask 99 = .ok (.istore 8, 2) := by decide +kernel
theorem dX8_ask_101 : decode cX8_ask 101 = .ok (.iload 8, 2) := by decide +kernel
theorem dX8_ask_103 : decode cX8_ask 103 = .ok (.iload 4, 2) := by decide +kernel
theorem dX8_ask_105 : decode cX8_ask 105 = .ok (.if_icmp .ge 17, 3) := by decide +kernel
theorem dX8_ask_108 : decode cX8_ask 108 = .ok (.iload 8, 2) := by decide +kernel
theorem dX8_ask_110 : decode cX8_ask 110 = .ok (.istore 4, 2) := by decide +kernel
theorem dX8_ask_112 : decode cX8_ask 112 = .ok (.bipush 10, 2) := by decide +kernel
theorem dX8_ask_114 : decode cX8_ask 114 = .ok (.iload 6, 2) := by decide +kernel
theorem dX8_ask_116 : decode cX8_ask 116 = .ok (.imul, 1) := by decide +kernel
theorem dX8_ask_117 : decode cX8_ask 117 = .ok (.iload 7, 2) := by decide +kernel
theorem dX8_ask_119 : decode cX8_ask 119 = .ok (.iadd, 1) := by decide +kernel
theorem dX8_ask_120 : decode cX8_ask 120 = .ok (.istore 5, 2) := by decide +kernel
theorem dX8_ask_122 : decode cX8_ask 122 = .ok (.iinc 7 1, 3) := by decide +kernel
theorem dX8_ask_125 : decode cX8_ask 125 = .ok (.goto (-63), 3) := by decide +kernel
theorem dX8_ask_128 : decode cX8_ask 128 = .ok (.aload_n 0, 1) := by decide +kernel
theorem dX8_ask_129 : decode cX8_ask 129 = .ok (.getfield 28, 3) := by decide +kernel
theorem dX8_ask_132 : decode cX8_ask 132 = .ok (.invokevirtual 179, 3) := by decide +kernel
theorem dX8_ask_135 : decode cX8_ask 135 = .ok (.iinc 6 1, 3) := by decide +kernel
theorem dX8_ask_138 : decode cX8_ask 138 = .ok (.goto (-92), 3) := by decide +kernel
theorem dX8_ask_141 : decode cX8_ask 141 = .ok (.iload 5, 2) := by decide +kernel
theorem dX8_ask_143 : decode cX8_ask 143 = .ok (.bipush (-4), 2) := by decide +kernel
theorem dX8_ask_145 : decode cX8_ask 145 = .ok (.if_icmp .eq 7, 3) := by decide +kernel
theorem dX8_ask_148 : decode cX8_ask 148 = .ok (.iload_n 2, 1) := by decide +kernel
theorem dX8_ask_149 : decode cX8_ask 149 = .ok (.ifCond .ne 8, 3) := by decide +kernel
theorem dX8_ask_152 : decode cX8_ask 152 = .ok (.iload 5, 2) := by decide +kernel
theorem dX8_ask_154 : decode cX8_ask 154 = .ok (.goto 5, 3) := by decide +kernel
theorem dX8_ask_157 : decode cX8_ask 157 = .ok (.iload 4, 2) := by decide +kernel
theorem dX8_ask_159 : decode cX8_ask 159 = .ok (.ireturn, 1) := by decide +kernel
def f_X8_ask_L62 (Λ : List Ly) (d : Dt) (p0 : Nat) (v1 : Int32) (v2 : Int32) (v3 : Int32) (v6 : Int32) (k128 : Int32 → Int32 → Int32 → Option (Int32 × Dt)) : Nat → Int32 → Int32 → Int32 → Option (Int32 × Dt)
  | 0, _, _, _ => none
  | n + 1, v4, v5, v7 => Option.bind (rf Λ p0 8 2) fun q15 => if clsAt Λ q15 = some 7 then (if (d.1 q15 2) ≤ v7 then (k128 v4 v5 v7) else (Option.bind (rf Λ q15 7 1) fun q18 => Option.bind (ra Λ q18 4 v7) fun q19 => if clsAt Λ q19 = some 1 then (Option.bind (f_X1_isBoundTo Λ d q19 v1) fun z21 => if z21 = 0 then (f_X8_ask_L62 Λ d p0 v1 v2 v3 v6 k128 n v4 v5 (v7 + (1 : Int32))) else (if clsAt Λ p0 = some 8 then (Option.bind (f_X8_mostAlike Λ d p0 v1 v3 v7) fun z24 => if v4 ≤ z24 then (f_X8_ask_L62 Λ d p0 v1 v2 v3 v6 k128 n v4 v5 (v7 + (1 : Int32))) else (f_X8_ask_L62 Λ d p0 v1 v2 v3 v6 k128 n z24 (((10 : Int32) * v6) + v7) (v7 + (1 : Int32)))) else none)) else none)) else none
def f_X8_ask_L46 (Λ : List Ly) (p0 : Nat) (v1 : Int32) (v2 : Int32) (v3 : Int32) : Nat → Int32 → Int32 → Int32 → Dt → Option (Int32 × Dt)
  | 0, _, _, _, _ => none
  | n + 1, v4, v5, v6, d => if (30 : Int32) < v6 then (if v5 = (-4 : Int32) then (some (v5, d)) else (if v2 = 0 then (some (v5, d)) else (some (v4, d)))) else (if v4 ≤ (1 : Int32) then (if v5 = (-4 : Int32) then (some (v5, d)) else (if v2 = 0 then (some (v5, d)) else (some (v4, d)))) else (f_X8_ask_L62 Λ d p0 v1 v2 v3 v6 (fun x26_4 x26_5 x26_7 => Option.bind (rf Λ p0 8 3) fun q27 => if clsAt Λ q27 = some 7 then (Option.bind (f_X7_passOne Λ d q27) fun z29 => f_X8_ask_L46 Λ p0 v1 v2 v3 n x26_4 x26_5 (v6 + (1 : Int32)) z29) else none) FU v4 v5 (0 : Int32)))
def f_X8_ask (Λ : List Ly) (d : Dt) (p0 : Nat) (v1 : Int32) (v2 : Int32) : Option (Int32 × Dt) := if (f_X8_isSeason v1) = 0 then (some ((-1 : Int32), d)) else (if (f_X8_isWhichOrHowMuch v2) = 0 then (some ((-1 : Int32), d)) else (if clsAt Λ p0 = some 8 then (Option.bind (f_X8_fittingGifts Λ d p0 v1) fun z4 => Option.bind (rf Λ p0 8 3) fun q5 => Option.bind (rf Λ p0 8 2) fun q6 => if clsAt Λ q5 = some 7 then (Option.bind (f_X7_copy Λ z4.2 q5 q6) fun z8 => f_X8_ask_L46 Λ p0 v1 v2 z4.1 FU (f_J6_bitCount_0f7a4 z4.1) (-4 : Int32) (0 : Int32) z8) else none) else none))
set_option maxHeartbeats 4000000 in
set_option maxRecDepth 100000 in
theorem w_X8_ask_L62 {p : Program} {l : Launch} {e : Env} {s : State} {m : MethodId} {args : Array Value} {below : List Frame} {meth : Method} {c : Code} {Γ : Cx} {Λ : List Ly} {z : Int32 × Dt} {d : Dt} (C0 : Ct Γ p s m args c cX8_ask 9 "SeasonBound") (hr : meth.sig.returnType = (some FieldType.int)) (hlocks : meth.locks = false) (k128 : Int32 → Int32 → Int32 → Option (Int32 × Dt)) (p0 : Nat) (v1 : Int32) (v2 : Int32) (v3 : Int32) (v6 : Int32)
    (hk128 : ∀ (v4 : Int32) (v5 : Int32) (v7 : Int32), (k128 v4 v5 v7 = some z) → ∀ (H : Heap) (locs : List Loc) (ls : Array Slot), Hs Γ Λ d s H locs → lv_has ls 9 [(0, .ref (ad Γ.2.2.1 p0)), (1, .int v1), (2, .int v2), (3, .int v3), (4, .int v4), (5, .int v5), (6, .int v6), (7, .int v7)] → W p l e { frames := 6, cells := 0, slots := 0, locals := 130 } s m args below meth c H locs 0 0 (MQ below (QN Γ Λ z.2 (some (.int z.1))) args s 0 0 (AP Γ)) (F0 m 128 ls [])) :
    ∀ (n : Nat) (v4 : Int32) (v5 : Int32) (v7 : Int32), f_X8_ask_L62 Λ d p0 v1 v2 v3 v6 k128 n v4 v5 v7 = some z → ∀ (H : Heap) (locs : List Loc) (ls : Array Slot), Hs Γ Λ d s H locs → lv_has ls 9 [(0, .ref (ad Γ.2.2.1 p0)), (1, .int v1), (2, .int v2), (3, .int v3), (4, .int v4), (5, .int v5), (6, .int v6), (7, .int v7)] → W p l e { frames := 6, cells := 0, slots := 0, locals := 130 } s m args below meth c H locs 0 0 (MQ below (QN Γ Λ z.2 (some (.int z.1))) args s 0 0 (AP Γ)) (F0 m 62 ls []) := by
  obtain ⟨hx, hb, hml, hown, hts, hK⟩ := id C0
  intro n
  induction n with
  | zero =>
    intro v4 v5 v7 hf
    cases hf
  | succ n ih =>
    intro v4 v5 v7 hf H locs ls hH hl
    unfold f_X8_ask_L62 at hf
    refine lv_iload hx hb dX8_ask_62 (lv_at hl 7 rfl) ?_
    refine lv_aload_n hx hb dX8_ask_64 rfl (lv_at hl 0 rfl) ?_
    obtain ⟨q15, g15, hf⟩ := ob hf
    refine r_getr C0 hH fl_X8_24 g15 dX8_ask_65 ?_
    obtain ⟨g16, hf⟩ := gd hf
    refine r_geti C0 hH fl_X8_91 g16 rfl dX8_ask_68 ?_
    refine lv_icmp_ge (tgt := 128) hx hb dX8_ask_71 (by decide) (fun c17 => ?_) (fun c17 => ?_)
    · replace hf := it hf c17
      exact hk128 v4 v5 v7 hf _ _ _ hH (lv_sub hl [0, 1, 2, 3, 4, 5, 6, 7] rfl)
    · replace hf := ie hf c17
      refine lv_aload_n hx hb dX8_ask_74 rfl (lv_at hl 0 rfl) ?_
      refine r_getr C0 hH fl_X8_24 g15 dX8_ask_75 ?_
      obtain ⟨q18, g18, hf⟩ := ob hf
      refine r_getr C0 hH fl_X8_112 g18 dX8_ask_78 ?_
      refine lv_iload hx hb dX8_ask_81 (lv_at hl 7 rfl) ?_
      obtain ⟨q19, g19, hf⟩ := ob hf
      refine r_aald (C := "SeasonBound$Child") C0 hH g19 (by decide) rfl dX8_ask_83 ?_
      refine lv_iload_n hx hb dX8_ask_84 rfl (lv_at hl 1 rfl) ?_
      obtain ⟨g20, hf⟩ := gd hf
      obtain ⟨z21, h21, hf⟩ := ob hf
      refine r_callVi (rest := []) C0 hH (c_X1_isBoundTo Γ l Λ d q19 v1 z21 h21) cv_X8_264 g20 (by decide) rfl hl.1 rfl (Nat.le_of_ble_eq_true rfl) dX8_ask_85 (by decide) (fun H locs hH => ?_)
      refine lv_if_eq (tgt := 122) hx hb dX8_ask_88 (by decide) (fun c22 => ?_) (fun c22 => ?_)
      · replace hf := it hf c22
        refine lv_iinc (v := (v7 + (1 : Int32))) (lv' := [(7, .int (v7 + (1 : Int32))), (0, .ref (ad Γ.2.2.1 p0)), (1, .int v1), (2, .int v2), (3, .int v3), (4, .int v4), (5, .int v5), (6, .int v6)]) hx hb dX8_ask_122 hl (k := 7) rfl (congrArg (fun w => v7 + w) (by decide)) (by decide) rfl (fun ls hl => ?_)
        refine lv_goto (tgt := 62) hx hb dX8_ask_125 (by decide) ?_
        exact ih v4 v5 (v7 + (1 : Int32)) hf _ _ _ hH (lv_sub hl [1, 2, 3, 4, 5, 6, 7, 0] rfl)
      · replace hf := ie hf c22
        refine lv_aload_n hx hb dX8_ask_91 rfl (lv_at hl 0 rfl) ?_
        refine lv_iload_n hx hb dX8_ask_92 rfl (lv_at hl 1 rfl) ?_
        refine lv_iload_n hx hb dX8_ask_93 rfl (lv_at hl 3 rfl) ?_
        refine lv_iload hx hb dX8_ask_94 (lv_at hl 7 rfl) ?_
        obtain ⟨g23, hf⟩ := gd hf
        obtain ⟨z24, h24, hf⟩ := ob hf
        refine r_callVi (rest := []) C0 hH (c_X8_mostAlike Γ l Λ d p0 v1 v3 v7 z24 h24) cv_X8_267 g23 (by decide) rfl hl.1 rfl (Nat.le_of_ble_eq_true rfl) dX8_ask_96 (by decide) (fun H locs hH => ?_)
        refine lv_istore (lv' := [(8, .int z24), (0, .ref (ad Γ.2.2.1 p0)), (1, .int v1), (2, .int v2), (3, .int v3), (4, .int v4), (5, .int v5), (6, .int v6), (7, .int v7)]) hx hb dX8_ask_99 hl (by decide) rfl (fun ls hl => ?_)
        refine lv_iload hx hb dX8_ask_101 (lv_at hl 0 rfl) ?_
        refine lv_iload hx hb dX8_ask_103 (lv_at hl 5 rfl) ?_
        refine lv_icmp_ge (tgt := 122) hx hb dX8_ask_105 (by decide) (fun c25 => ?_) (fun c25 => ?_)
        · replace hf := it hf c25
          refine lv_iinc (v := (v7 + (1 : Int32))) (lv' := [(7, .int (v7 + (1 : Int32))), (8, .int z24), (0, .ref (ad Γ.2.2.1 p0)), (1, .int v1), (2, .int v2), (3, .int v3), (4, .int v4), (5, .int v5), (6, .int v6)]) hx hb dX8_ask_122 hl (k := 8) rfl (congrArg (fun w => v7 + w) (by decide)) (by decide) rfl (fun ls hl => ?_)
          refine lv_goto (tgt := 62) hx hb dX8_ask_125 (by decide) ?_
          exact ih v4 v5 (v7 + (1 : Int32)) hf _ _ _ hH (lv_sub hl [2, 3, 4, 5, 6, 7, 8, 0] rfl)
        · replace hf := ie hf c25
          refine lv_iload hx hb dX8_ask_108 (lv_at hl 0 rfl) ?_
          refine lv_istore (lv' := [(4, .int z24), (8, .int z24), (0, .ref (ad Γ.2.2.1 p0)), (1, .int v1), (2, .int v2), (3, .int v3), (5, .int v5), (6, .int v6), (7, .int v7)]) hx hb dX8_ask_110 hl (by decide) rfl (fun ls hl => ?_)
          refine lv_bipush (v := (10 : Int32)) hx hb dX8_ask_112 (by decide) ?_
          refine lv_iload hx hb dX8_ask_114 (lv_at hl 7 rfl) ?_
          refine lv_imul hx hb dX8_ask_116 ?_
          refine lv_iload hx hb dX8_ask_117 (lv_at hl 8 rfl) ?_
          refine lv_iadd hx hb dX8_ask_119 ?_
          refine lv_istore (lv' := [(5, .int (((10 : Int32) * v6) + v7)), (4, .int z24), (8, .int z24), (0, .ref (ad Γ.2.2.1 p0)), (1, .int v1), (2, .int v2), (3, .int v3), (6, .int v6), (7, .int v7)]) hx hb dX8_ask_120 hl (by decide) rfl (fun ls hl => ?_)
          refine lv_iinc (v := (v7 + (1 : Int32))) (lv' := [(7, .int (v7 + (1 : Int32))), (5, .int (((10 : Int32) * v6) + v7)), (4, .int z24), (8, .int z24), (0, .ref (ad Γ.2.2.1 p0)), (1, .int v1), (2, .int v2), (3, .int v3), (6, .int v6)]) hx hb dX8_ask_122 hl (k := 8) rfl (congrArg (fun w => v7 + w) (by decide)) (by decide) rfl (fun ls hl => ?_)
          refine lv_goto (tgt := 62) hx hb dX8_ask_125 (by decide) ?_
          exact ih z24 (((10 : Int32) * v6) + v7) (v7 + (1 : Int32)) hf _ _ _ hH (lv_sub hl [4, 5, 6, 7, 2, 1, 8, 0] rfl)
set_option maxHeartbeats 4000000 in
set_option maxRecDepth 100000 in
theorem w_X8_ask_L46 {p : Program} {l : Launch} {e : Env} {s : State} {m : MethodId} {args : Array Value} {below : List Frame} {meth : Method} {c : Code} {Γ : Cx} {Λ : List Ly} {z : Int32 × Dt} (C0 : Ct Γ p s m args c cX8_ask 9 "SeasonBound") (hr : meth.sig.returnType = (some FieldType.int)) (hlocks : meth.locks = false) (p0 : Nat) (v1 : Int32) (v2 : Int32) (v3 : Int32) :
    ∀ (n : Nat) (v4 : Int32) (v5 : Int32) (v6 : Int32) (d : Dt), f_X8_ask_L46 Λ p0 v1 v2 v3 n v4 v5 v6 d = some z → ∀ (H : Heap) (locs : List Loc) (ls : Array Slot), Hs Γ Λ d s H locs → lv_has ls 9 [(0, .ref (ad Γ.2.2.1 p0)), (1, .int v1), (2, .int v2), (3, .int v3), (4, .int v4), (5, .int v5), (6, .int v6)] → W p l e { frames := 6, cells := 0, slots := 0, locals := 130 } s m args below meth c H locs 0 0 (MQ below (QN Γ Λ z.2 (some (.int z.1))) args s 0 0 (AP Γ)) (F0 m 46 ls []) := by
  obtain ⟨hx, hb, hml, hown, hts, hK⟩ := id C0
  intro n
  induction n with
  | zero =>
    intro v4 v5 v6 d hf
    cases hf
  | succ n ih =>
    intro v4 v5 v6 d hf H locs ls hH hl
    unfold f_X8_ask_L46 at hf
    refine lv_iload hx hb dX8_ask_46 (lv_at hl 6 rfl) ?_
    refine lv_bipush (v := (30 : Int32)) hx hb dX8_ask_48 (by decide) ?_
    refine lv_icmp_gt (tgt := 141) hx hb dX8_ask_50 (by decide) (fun c9 => ?_) (fun c9 => ?_)
    · replace hf := it hf c9
      refine lv_iload hx hb dX8_ask_141 (lv_at hl 5 rfl) ?_
      refine lv_bipush (v := (-4 : Int32)) hx hb dX8_ask_143 (by decide) ?_
      refine lv_icmp_eq (tgt := 152) hx hb dX8_ask_145 (by decide) (fun c10 => ?_) (fun c10 => ?_)
      · replace hf := it hf c10
        refine lv_iload hx hb dX8_ask_152 (lv_at hl 5 rfl) ?_
        refine lv_goto (tgt := 159) hx hb dX8_ask_154 (by decide) ?_
        obtain rfl := Option.some.inj hf
        exact r_iret (d' := d) C0 hr hlocks hH rfl dX8_ask_159
      · replace hf := ie hf c10
        refine lv_iload_n hx hb dX8_ask_148 rfl (lv_at hl 2 rfl) ?_
        refine lv_if_ne (tgt := 157) hx hb dX8_ask_149 (by decide) (fun c11 => ?_) (fun c11 => ?_)
        · replace hf := ie hf c11
          refine lv_iload hx hb dX8_ask_157 (lv_at hl 4 rfl) ?_
          obtain rfl := Option.some.inj hf
          exact r_iret (d' := d) C0 hr hlocks hH rfl dX8_ask_159
        · replace hf := it hf c11
          refine lv_iload hx hb dX8_ask_152 (lv_at hl 5 rfl) ?_
          refine lv_goto (tgt := 159) hx hb dX8_ask_154 (by decide) ?_
          obtain rfl := Option.some.inj hf
          exact r_iret (d' := d) C0 hr hlocks hH rfl dX8_ask_159
    · replace hf := ie hf c9
      refine lv_iload hx hb dX8_ask_53 (lv_at hl 4 rfl) ?_
      refine lv_iconst (v := (1 : Int32)) hx hb dX8_ask_55 (by decide) ?_
      refine lv_icmp_le (tgt := 141) hx hb dX8_ask_56 (by decide) (fun c12 => ?_) (fun c12 => ?_)
      · replace hf := it hf c12
        refine lv_iload hx hb dX8_ask_141 (lv_at hl 5 rfl) ?_
        refine lv_bipush (v := (-4 : Int32)) hx hb dX8_ask_143 (by decide) ?_
        refine lv_icmp_eq (tgt := 152) hx hb dX8_ask_145 (by decide) (fun c13 => ?_) (fun c13 => ?_)
        · replace hf := it hf c13
          refine lv_iload hx hb dX8_ask_152 (lv_at hl 5 rfl) ?_
          refine lv_goto (tgt := 159) hx hb dX8_ask_154 (by decide) ?_
          obtain rfl := Option.some.inj hf
          exact r_iret (d' := d) C0 hr hlocks hH rfl dX8_ask_159
        · replace hf := ie hf c13
          refine lv_iload_n hx hb dX8_ask_148 rfl (lv_at hl 2 rfl) ?_
          refine lv_if_ne (tgt := 157) hx hb dX8_ask_149 (by decide) (fun c14 => ?_) (fun c14 => ?_)
          · replace hf := ie hf c14
            refine lv_iload hx hb dX8_ask_157 (lv_at hl 4 rfl) ?_
            obtain rfl := Option.some.inj hf
            exact r_iret (d' := d) C0 hr hlocks hH rfl dX8_ask_159
          · replace hf := it hf c14
            refine lv_iload hx hb dX8_ask_152 (lv_at hl 5 rfl) ?_
            refine lv_goto (tgt := 159) hx hb dX8_ask_154 (by decide) ?_
            obtain rfl := Option.some.inj hf
            exact r_iret (d' := d) C0 hr hlocks hH rfl dX8_ask_159
      · replace hf := ie hf c12
        refine lv_iconst (v := (0 : Int32)) hx hb dX8_ask_59 (by decide) ?_
        refine lv_istore (lv' := [(7, .int (0 : Int32)), (0, .ref (ad Γ.2.2.1 p0)), (1, .int v1), (2, .int v2), (3, .int v3), (4, .int v4), (5, .int v5), (6, .int v6)]) hx hb dX8_ask_60 hl (by decide) rfl (fun ls hl => ?_)
        refine w_X8_ask_L62 C0 hr hlocks _ p0 v1 v2 v3 v6 ?k128 FU v4 v5 (0 : Int32) hf _ _ _ hH (lv_sub hl [1, 2, 3, 4, 5, 6, 7, 0] rfl)
        case k128 =>
          intro x26_4 x26_5 x26_7 hf H locs ls hH hl
          refine lv_aload_n hx hb dX8_ask_128 rfl (lv_at hl 0 rfl) ?_
          obtain ⟨q27, g27, hf⟩ := ob hf
          refine r_getr C0 hH fl_X8_28 g27 dX8_ask_129 ?_
          obtain ⟨g28, hf⟩ := gd hf
          obtain ⟨z29, h29, hf⟩ := ob hf
          refine r_callVv (rest := []) C0 hH (c_X7_passOne Γ l Λ d q27 z29 h29) cv_X8_179 g28 (by decide) rfl hl.1 rfl (Nat.le_of_ble_eq_true rfl) dX8_ask_132 (by decide) (fun H locs hH => ?_)
          refine lv_iinc (v := (v6 + (1 : Int32))) (lv' := [(6, .int (v6 + (1 : Int32))), (0, .ref (ad Γ.2.2.1 p0)), (1, .int v1), (2, .int v2), (3, .int v3), (4, .int x26_4), (5, .int x26_5), (7, .int x26_7)]) hx hb dX8_ask_135 hl (k := 6) rfl (congrArg (fun w => v6 + w) (by decide)) (by decide) rfl (fun ls hl => ?_)
          refine lv_goto (tgt := 46) hx hb dX8_ask_138 (by decide) ?_
          exact ih x26_4 x26_5 (v6 + (1 : Int32)) z29 hf _ _ _ hH (lv_sub hl [1, 2, 3, 4, 5, 6, 0] rfl)
set_option maxHeartbeats 4000000 in
set_option maxRecDepth 100000 in
theorem c_X8_ask (Γ : Cx) (l : Launch) (Λ : List Ly) (d : Dt) (p0 : Nat) (v1 : Int32) (v2 : Int32) (z : Int32 × Dt) (hf : f_X8_ask Λ d p0 v1 v2 = some z) : Cn Γ l yX8_ask cX8_ask 9 (some FieldType.int) 6 130 [.ref (ad Γ.2.2.1 p0), .int v1, .int v2] Λ d (some (.int z.1)) z.2 := by
  refine Cn.of (own := "SeasonBound") (by decide +kernel) rfl (Nat.le_of_ble_eq_true rfl) ?_
  intro p e s m below meth c C0 hr hlocks hH ls hl
  have hl : lv_has ls 9 [(0, .ref (ad Γ.2.2.1 p0)), (1, .int v1), (2, .int v2)] := hl
  obtain ⟨hx, hb, hml, hown, hts, hK⟩ := id C0
  unfold f_X8_ask at hf
  refine lv_iload_n hx hb dX8_ask_0 rfl (lv_at hl 1 rfl) ?_
  refine r_callSi (rest := []) C0 hH (c_X8_isSeason Γ l Λ d v1) cs_X8_150 (by decide) rfl hl.1 rfl (Nat.le_of_ble_eq_true rfl) dX8_ask_1 (by decide) (fun H locs hH => ?_)
  refine lv_if_eq (tgt := 14) hx hb dX8_ask_4 (by decide) (fun c1 => ?_) (fun c1 => ?_)
  · replace hf := it hf c1
    refine lv_iconst (v := (-1 : Int32)) hx hb dX8_ask_14 (by decide) ?_
    obtain rfl := Option.some.inj hf
    exact r_iret (d' := d) C0 hr hlocks hH rfl dX8_ask_15
  · replace hf := ie hf c1
    refine lv_iload_n hx hb dX8_ask_7 rfl (lv_at hl 2 rfl) ?_
    refine r_callSi (rest := []) C0 hH (c_X8_isWhichOrHowMuch Γ l Λ d v2) cs_X8_188 (by decide) rfl hl.1 rfl (Nat.le_of_ble_eq_true rfl) dX8_ask_8 (by decide) (fun H locs hH => ?_)
    refine lv_if_ne (tgt := 16) hx hb dX8_ask_11 (by decide) (fun c2 => ?_) (fun c2 => ?_)
    · replace hf := ie hf c2
      refine lv_aload_n hx hb dX8_ask_16 rfl (lv_at hl 0 rfl) ?_
      refine lv_iload_n hx hb dX8_ask_17 rfl (lv_at hl 1 rfl) ?_
      obtain ⟨g3, hf⟩ := gd hf
      obtain ⟨z4, h4, hf⟩ := ob hf
      refine r_callVi (rest := []) C0 hH (c_X8_fittingGifts Γ l Λ d p0 v1 z4 h4) cv_X8_256 g3 (by decide) rfl hl.1 rfl (Nat.le_of_ble_eq_true rfl) dX8_ask_18 (by decide) (fun H locs hH => ?_)
      refine lv_istore_n (lv' := [(3, .int z4.1), (0, .ref (ad Γ.2.2.1 p0)), (1, .int v1), (2, .int v2)]) hx hb dX8_ask_21 rfl hl (by decide) rfl (fun ls hl => ?_)
      refine lv_iload_n hx hb dX8_ask_22 rfl (lv_at hl 0 rfl) ?_
      refine r_callSi (rest := []) C0 hH (c_J6_bitCount_0f7a4 Γ l Λ z4.2 z4.1) cs_X8_259 (by decide) rfl hl.1 rfl (Nat.le_of_ble_eq_true rfl) dX8_ask_23 (by decide) (fun H locs hH => ?_)
      refine lv_istore (lv' := [(4, .int (f_J6_bitCount_0f7a4 z4.1)), (3, .int z4.1), (0, .ref (ad Γ.2.2.1 p0)), (1, .int v1), (2, .int v2)]) hx hb dX8_ask_26 hl (by decide) rfl (fun ls hl => ?_)
      refine lv_bipush (v := (-4 : Int32)) hx hb dX8_ask_28 (by decide) ?_
      refine lv_istore (lv' := [(5, .int (-4 : Int32)), (4, .int (f_J6_bitCount_0f7a4 z4.1)), (3, .int z4.1), (0, .ref (ad Γ.2.2.1 p0)), (1, .int v1), (2, .int v2)]) hx hb dX8_ask_30 hl (by decide) rfl (fun ls hl => ?_)
      refine lv_aload_n hx hb dX8_ask_32 rfl (lv_at hl 3 rfl) ?_
      obtain ⟨q5, g5, hf⟩ := ob hf
      refine r_getr C0 hH fl_X8_28 g5 dX8_ask_33 ?_
      refine lv_aload_n hx hb dX8_ask_36 rfl (lv_at hl 3 rfl) ?_
      obtain ⟨q6, g6, hf⟩ := ob hf
      refine r_getr C0 hH fl_X8_24 g6 dX8_ask_37 ?_
      obtain ⟨g7, hf⟩ := gd hf
      obtain ⟨z8, h8, hf⟩ := ob hf
      refine r_callVv (rest := []) C0 hH (c_X7_copy Γ l Λ z4.2 q5 q6 z8 h8) cv_X8_87 g7 (by decide) rfl hl.1 rfl (Nat.le_of_ble_eq_true rfl) dX8_ask_40 (by decide) (fun H locs hH => ?_)
      refine lv_iconst (v := (0 : Int32)) hx hb dX8_ask_43 (by decide) ?_
      refine lv_istore (lv' := [(6, .int (0 : Int32)), (5, .int (-4 : Int32)), (4, .int (f_J6_bitCount_0f7a4 z4.1)), (3, .int z4.1), (0, .ref (ad Γ.2.2.1 p0)), (1, .int v1), (2, .int v2)]) hx hb dX8_ask_44 hl (by decide) rfl (fun ls hl => ?_)
      refine w_X8_ask_L46 C0 hr hlocks p0 v1 v2 z4.1 FU (f_J6_bitCount_0f7a4 z4.1) (-4 : Int32) (0 : Int32) z8 hf _ _ _ hH (lv_sub hl [4, 5, 6, 3, 2, 1, 0] rfl)
    · replace hf := it hf c2
      refine lv_iconst (v := (-1 : Int32)) hx hb dX8_ask_14 (by decide) ?_
      obtain rfl := Option.some.inj hf
      exact r_iret (d' := d) C0 hr hlocks hH rfl dX8_ask_15
theorem dX8_drift_0 : decode cX8_drift 0 = .ok (.iload_n 2, 1) := by decide +kernel
theorem dX8_drift_1 : decode cX8_drift 1 = .ok (.iconst 1, 1) := by decide +kernel
theorem dX8_drift_2 : decode cX8_drift 2 = .ok (.bipush 60, 2) := by decide +kernel
theorem dX8_drift_4 : decode cX8_drift 4 = .ok (.invokestatic 60, 3) := by decide +kernel
theorem dX8_drift_7 : decode cX8_drift 7 = .ok (.ifCond .eq 12, 3) := by decide +kernel
theorem dX8_drift_10 : decode cX8_drift 10 = .ok (.iload_n 3, 1) := by decide +kernel
theorem dX8_drift_11 : decode cX8_drift 11 = .ok (.iconst 0, 1) := by decide +kernel
theorem dX8_drift_12 : decode cX8_drift 12 = .ok (.iconst 1, 1) := by decide +kernel
theorem dX8_drift_13 : decode cX8_drift 13 = .ok (.invokestatic 60, 3) := by decide +kernel
theorem dX8_drift_16 : decode cX8_drift 16 = .ok (.ifCond .ne 5, 3) := by decide +kernel
theorem dX8_drift_19 : decode cX8_drift 19 = .ok (.iconst (-1), 1) := by decide +kernel
theorem dX8_drift_20 : decode cX8_drift 20 = .ok (.ireturn, 1) := by decide +kernel
theorem dX8_drift_21 : decode cX8_drift 21 = .ok (.aload_n 0, 1) := by decide +kernel
theorem dX8_drift_22 : decode cX8_drift 22 = .ok (.getfield 24, 3) := by decide +kernel
theorem dX8_drift_25 : decode cX8_drift 25 = .ok (.getfield 91, 3) := by decide +kernel
theorem dX8_drift_28 : decode cX8_drift 28 = .ok (.istore 4, 2) := by decide +kernel
theorem dX8_drift_30 : decode cX8_drift 30 = .ok (.iload 4, 2) := by decide +kernel
theorem dX8_drift_32 : decode cX8_drift 32 = .ok (.ifCond .ne 6, 3) := by decide +kernel
theorem dX8_drift_35 : decode cX8_drift 35 = .ok (.bipush (-2), 2) := by decide +kernel
theorem dX8_drift_37 : decode cX8_drift 37 = .ok (.ireturn, 1) := by decide +kernel
theorem dX8_drift_38 : decode cX8_drift 38 = .ok (.aload_n 0, 1) := by decide +kernel
theorem dX8_drift_39 : decode cX8_drift 39 = .ok (.getfield 28, 3) := by decide +kernel
theorem dX8_drift_42 : decode cX8_drift 42 = .ok (.aload_n 0, 1) := by decide +kernel
theorem dX8_drift_43 : decode cX8_drift 43 = .ok (.getfield 24, 3) := by decide +kernel
theorem dX8_drift_46 : decode cX8_drift 46 = .ok (.invokevirtual 87, 3) := by decide +kernel
theorem dX8_drift_49 : decode cX8_drift 49 = .ok (.iload_n 1, 1) := by decide +kernel
theorem dX8_drift_50 : decode cX8_drift 50 = .ok (.istore 5, 2) := by decide +kernel
theorem dX8_drift_52 : decode cX8_drift 52 = .ok (.iconst 0, 1) := by decide +kernel
theorem dX8_drift_53 : decode cX8_drift 53 = .ok (.istore 6, 2) := by decide +kernel
theorem dX8_drift_55 : decode cX8_drift 55 = .ok (.iload 6, 2) := by decide +kernel
theorem dX8_drift_57 : decode cX8_drift 57 = .ok (.iload_n 2, 1) := by decide +kernel
theorem dX8_drift_58 : decode cX8_drift 58 = .ok (.if_icmp .ge 69, 3) := by decide +kernel
theorem dX8_drift_61 : decode cX8_drift 61 = .ok (.iload 5, 2) := by decide +kernel
theorem dX8_drift_63 : decode cX8_drift 63 = .ok (.ldc_w 273, 3) := by decide +kernel
theorem dX8_drift_66 : decode cX8_drift 66 = .ok (.imul, 1) := by decide +kernel
theorem dX8_drift_67 : decode cX8_drift 67 = .ok (.sipush 12345, 3) := by decide +kernel
theorem dX8_drift_70 : decode cX8_drift 70 = .ok (.iadd, 1) := by decide +kernel
theorem dX8_drift_71 : decode cX8_drift 71 = .ok (.istore 5, 2) := by decide +kernel
theorem dX8_drift_73 : decode cX8_drift 73 = .ok (.iload 5, 2) := by decide +kernel
theorem dX8_drift_75 : decode cX8_drift 75 = .ok (.bipush 16, 2) := by decide +kernel
theorem dX8_drift_77 : decode cX8_drift 77 = .ok (.iushr, 1) := by decide +kernel
theorem dX8_drift_78 : decode cX8_drift 78 = .ok (.sipush 32767, 3) := by decide +kernel
theorem dX8_drift_81 : decode cX8_drift 81 = .ok (.iand, 1) := by decide +kernel
theorem dX8_drift_82 : decode cX8_drift 82 = .ok (.istore 7, 2) := by decide +kernel
theorem dX8_drift_84 : decode cX8_drift 84 = .ok (.aload_n 0, 1) := by decide +kernel
theorem dX8_drift_85 : decode cX8_drift 85 = .ok (.getfield 28, 3) := by decide +kernel
theorem dX8_drift_88 : decode cX8_drift 88 = .ok (.iload 7, 2) := by decide +kernel
theorem dX8_drift_90 : decode cX8_drift 90 = .ok (.iload 4, 2) := by decide +kernel
theorem dX8_drift_92 : decode cX8_drift 92 = .ok (.irem, 1) := by decide +kernel
theorem dX8_drift_93 : decode cX8_drift 93 = .ok (.iload 7, 2) := by decide +kernel
theorem dX8_drift_95 : decode cX8_drift 95 = .ok (.bipush 8, 2) := by decide +kernel
theorem dX8_drift_97 : decode cX8_drift 97 = .ok (.idiv, 1) := by decide +kernel
theorem dX8_drift_98 : decode cX8_drift 98 = .ok (.iconst 4, 1) := by decide +kernel
theorem dX8_drift_99 : decode cX8_drift 99 = .ok (.irem, 1) := by decide +kernel
theorem dX8_drift_100 : decode cX8_drift 100 = .ok (.iconst 1, 1) := by decide +kernel
theorem dX8_drift_101 : decode cX8_drift 101 = .ok (.iload 7, 2) := by decide +kernel
theorem dX8_drift_103 : decode cX8_drift 103 = .ok (.bipush 32, 2) := by decide +kernel
theorem dX8_drift_105 : decode cX8_drift 105 = .ok (.idiv, 1) := by decide +kernel
theorem dX8_drift_106 : decode cX8_drift 106 = .ok (.bipush 9, 2) := by decide +kernel
theorem dX8_drift_108 : decode cX8_drift 108 = .ok (.irem, 1) := by decide +kernel
theorem dX8_drift_109 : decode cX8_drift 109 = .ok (.iadd, 1) := by decide +kernel
theorem dX8_drift_110 : decode cX8_drift 110 = .ok (.invokevirtual 166, 3) := by decide +kernel
theorem dX8_drift_113 : decode cX8_drift 113 = .ok (.pop, 1) := by decide +kernel
theorem dX8_drift_114 : decode cX8_drift 114 = .ok (.aload_n 0, 1) := by decide +kernel
theorem dX8_drift_115 : decode cX8_drift 115 = .ok (.getfield 28, 3) := by decide +kernel
theorem dX8_drift_118 : decode cX8_drift 118 = .ok (.invokevirtual 179, 3) := by decide +kernel
theorem dX8_drift_121 : decode cX8_drift 121 = .ok (.iinc 6 1, 3) := by decide +kernel
theorem dX8_drift_124 : decode cX8_drift 124 = .ok (.goto (-69), 3) := by decide +kernel
theorem dX8_drift_127 : decode cX8_drift 127 = .ok (.iload_n 3, 1) := by decide +kernel
theorem dX8_drift_128 : decode cX8_drift 128 = .ok (.ifCond .ne 13, 3) := by decide +kernel
theorem dX8_drift_131 : decode cX8_drift 131 = .ok (.aload_n 0, 1) := by decide +kernel
theorem dX8_drift_132 : decode cX8_drift 132 = .ok (.getfield 28, 3) := by decide +kernel
theorem dX8_drift_135 : decode cX8_drift 135 = .ok (.invokevirtual 105, 3) := by decide +kernel
theorem dX8_drift_138 : decode cX8_drift 138 = .ok (.goto 10, 3) := by decide +kernel
theorem dX8_drift_141 : decode cX8_drift 141 = .ok (.aload_n 0, 1) := by decide +kernel
theorem dX8_drift_142 : decode cX8_drift 142 = .ok (.getfield 28, 3) := by decide +kernel
theorem dX8_drift_145 : decode cX8_drift 145 = .ok (.invokevirtual 185, 3) := by decide +kernel
theorem dX8_drift_148 : decode cX8_drift 148 = .ok (.ireturn, 1) := by decide +kernel
def f_X8_drift_L55 (Λ : List Ly) (p0 : Nat) (v2 : Int32) (v3 : Int32) (v4 : Int32) : Nat → Int32 → Int32 → Dt → Option (Int32 × Dt)
  | 0, _, _, _ => none
  | n + 1, v5, v6, d => if v2 ≤ v6 then (if v3 = 0 then (Option.bind (rf Λ p0 8 3) fun q14 => if clsAt Λ q14 = some 7 then (Option.bind (f_X7_skillSum Λ d q14) fun z16 => some (z16, d)) else none) else (Option.bind (rf Λ p0 8 3) fun q11 => if clsAt Λ q11 = some 7 then (Option.bind (f_X7_ageSum Λ d q11) fun z13 => some (z13, d)) else none)) else (Option.bind (rf Λ p0 8 3) fun q17 => if ¬ v4 = 0 then (if clsAt Λ q17 = some 7 then (Option.bind (f_X7_apprentice Λ d q17 ((((((v5 * (1103515245 : Int32)) + (12345 : Int32))).toUInt32 >>> (((16 : Int32)).toUInt32 &&& Int32.toUInt32 31)).toInt32 &&& (32767 : Int32)) - (((((v5 * (1103515245 : Int32)) + (12345 : Int32))).toUInt32 >>> (((16 : Int32)).toUInt32 &&& Int32.toUInt32 31)).toInt32 &&& (32767 : Int32)) / v4 * v4) (((((((v5 * (1103515245 : Int32)) + (12345 : Int32))).toUInt32 >>> (((16 : Int32)).toUInt32 &&& Int32.toUInt32 31)).toInt32 &&& (32767 : Int32)) / (8 : Int32)) - ((((((v5 * (1103515245 : Int32)) + (12345 : Int32))).toUInt32 >>> (((16 : Int32)).toUInt32 &&& Int32.toUInt32 31)).toInt32 &&& (32767 : Int32)) / (8 : Int32)) / (4 : Int32) * (4 : Int32)) ((1 : Int32) + (((((((v5 * (1103515245 : Int32)) + (12345 : Int32))).toUInt32 >>> (((16 : Int32)).toUInt32 &&& Int32.toUInt32 31)).toInt32 &&& (32767 : Int32)) / (32 : Int32)) - ((((((v5 * (1103515245 : Int32)) + (12345 : Int32))).toUInt32 >>> (((16 : Int32)).toUInt32 &&& Int32.toUInt32 31)).toInt32 &&& (32767 : Int32)) / (32 : Int32)) / (9 : Int32) * (9 : Int32)))) fun z20 => Option.bind (f_X7_passOne Λ z20.2 q17) fun z21 => f_X8_drift_L55 Λ p0 v2 v3 v4 n ((v5 * (1103515245 : Int32)) + (12345 : Int32)) (v6 + (1 : Int32)) z21) else none) else none)
def f_X8_drift (Λ : List Ly) (d : Dt) (p0 : Nat) (v1 : Int32) (v2 : Int32) (v3 : Int32) : Option (Int32 × Dt) := if (f_X8_within v2 (1 : Int32) (60 : Int32)) = 0 then (some ((-1 : Int32), d)) else (if (f_X8_within v3 (0 : Int32) (1 : Int32)) = 0 then (some ((-1 : Int32), d)) else (Option.bind (rf Λ p0 8 2) fun q3 => if clsAt Λ q3 = some 7 then (if (d.1 q3 2) = 0 then (some ((-2 : Int32), d)) else (Option.bind (rf Λ p0 8 3) fun q6 => if clsAt Λ q6 = some 7 then (Option.bind (f_X7_copy Λ d q6 q3) fun z8 => f_X8_drift_L55 Λ p0 v2 v3 (d.1 q3 2) FU v1 (0 : Int32) z8) else none)) else none))
set_option maxHeartbeats 4000000 in
set_option maxRecDepth 100000 in
theorem w_X8_drift_L55 {p : Program} {l : Launch} {e : Env} {s : State} {m : MethodId} {args : Array Value} {below : List Frame} {meth : Method} {c : Code} {Γ : Cx} {Λ : List Ly} {z : Int32 × Dt} (C0 : Ct Γ p s m args c cX8_drift 8 "SeasonBound") (hr : meth.sig.returnType = (some FieldType.int)) (hlocks : meth.locks = false) (p0 : Nat) (v2 : Int32) (v3 : Int32) (v4 : Int32) :
    ∀ (n : Nat) (v5 : Int32) (v6 : Int32) (d : Dt), f_X8_drift_L55 Λ p0 v2 v3 v4 n v5 v6 d = some z → ∀ (H : Heap) (locs : List Loc) (ls : Array Slot), Hs Γ Λ d s H locs → lv_has ls 8 [(0, .ref (ad Γ.2.2.1 p0)), (2, .int v2), (3, .int v3), (4, .int v4), (5, .int v5), (6, .int v6)] → W p l e { frames := 4, cells := 0, slots := 0, locals := 85 } s m args below meth c H locs 0 0 (MQ below (QN Γ Λ z.2 (some (.int z.1))) args s 0 0 (AP Γ)) (F0 m 55 ls []) := by
  obtain ⟨hx, hb, hml, hown, hts, hK⟩ := id C0
  intro n
  induction n with
  | zero =>
    intro v5 v6 d hf
    cases hf
  | succ n ih =>
    intro v5 v6 d hf H locs ls hH hl
    unfold f_X8_drift_L55 at hf
    refine lv_iload hx hb dX8_drift_55 (lv_at hl 5 rfl) ?_
    refine lv_iload_n hx hb dX8_drift_57 rfl (lv_at hl 1 rfl) ?_
    refine lv_icmp_ge (tgt := 127) hx hb dX8_drift_58 (by decide) (fun c9 => ?_) (fun c9 => ?_)
    · replace hf := it hf c9
      refine lv_iload_n hx hb dX8_drift_127 rfl (lv_at hl 2 rfl) ?_
      refine lv_if_ne (tgt := 141) hx hb dX8_drift_128 (by decide) (fun c10 => ?_) (fun c10 => ?_)
      · replace hf := ie hf c10
        refine lv_aload_n hx hb dX8_drift_141 rfl (lv_at hl 0 rfl) ?_
        obtain ⟨q11, g11, hf⟩ := ob hf
        refine r_getr C0 hH fl_X8_28 g11 dX8_drift_142 ?_
        obtain ⟨g12, hf⟩ := gd hf
        obtain ⟨z13, h13, hf⟩ := ob hf
        refine r_callVi (rest := []) C0 hH (c_X7_ageSum Γ l Λ d q11 z13 h13) cv_X8_185 g12 (by decide) rfl hl.1 rfl (Nat.le_of_ble_eq_true rfl) dX8_drift_145 (by decide) (fun H locs hH => ?_)
        obtain rfl := Option.some.inj hf
        exact r_iret (d' := d) C0 hr hlocks hH rfl dX8_drift_148
      · replace hf := it hf c10
        refine lv_aload_n hx hb dX8_drift_131 rfl (lv_at hl 0 rfl) ?_
        obtain ⟨q14, g14, hf⟩ := ob hf
        refine r_getr C0 hH fl_X8_28 g14 dX8_drift_132 ?_
        obtain ⟨g15, hf⟩ := gd hf
        obtain ⟨z16, h16, hf⟩ := ob hf
        refine r_callVi (rest := []) C0 hH (c_X7_skillSum Γ l Λ d q14 z16 h16) cv_X8_105 g15 (by decide) rfl hl.1 rfl (Nat.le_of_ble_eq_true rfl) dX8_drift_135 (by decide) (fun H locs hH => ?_)
        refine lv_goto (tgt := 148) hx hb dX8_drift_138 (by decide) ?_
        obtain rfl := Option.some.inj hf
        exact r_iret (d' := d) C0 hr hlocks hH rfl dX8_drift_148
    · replace hf := ie hf c9
      refine lv_iload hx hb dX8_drift_61 (lv_at hl 4 rfl) ?_
      refine lv_ldcw hx hb hown (hts _ kc_X8_273) dX8_drift_63 ?_
      refine lv_imul hx hb dX8_drift_66 ?_
      refine lv_sipush (v := (12345 : Int32)) hx hb dX8_drift_67 (by decide) ?_
      refine lv_iadd hx hb dX8_drift_70 ?_
      refine lv_istore (lv' := [(5, .int ((v5 * (1103515245 : Int32)) + (12345 : Int32))), (0, .ref (ad Γ.2.2.1 p0)), (2, .int v2), (3, .int v3), (4, .int v4), (6, .int v6)]) hx hb dX8_drift_71 hl (by decide) rfl (fun ls hl => ?_)
      refine lv_iload hx hb dX8_drift_73 (lv_at hl 0 rfl) ?_
      refine lv_bipush (v := (16 : Int32)) hx hb dX8_drift_75 (by decide) ?_
      refine lv_iushr (v := ((((v5 * (1103515245 : Int32)) + (12345 : Int32))).toUInt32 >>> (((16 : Int32)).toUInt32 &&& Int32.toUInt32 31)).toInt32) hx hb dX8_drift_77 rfl ?_
      refine lv_sipush (v := (32767 : Int32)) hx hb dX8_drift_78 (by decide) ?_
      refine lv_iand hx hb dX8_drift_81 ?_
      refine lv_istore (lv' := [(7, .int (((((v5 * (1103515245 : Int32)) + (12345 : Int32))).toUInt32 >>> (((16 : Int32)).toUInt32 &&& Int32.toUInt32 31)).toInt32 &&& (32767 : Int32))), (5, .int ((v5 * (1103515245 : Int32)) + (12345 : Int32))), (0, .ref (ad Γ.2.2.1 p0)), (2, .int v2), (3, .int v3), (4, .int v4), (6, .int v6)]) hx hb dX8_drift_82 hl (by decide) rfl (fun ls hl => ?_)
      refine lv_aload_n hx hb dX8_drift_84 rfl (lv_at hl 2 rfl) ?_
      obtain ⟨q17, g17, hf⟩ := ob hf
      refine r_getr C0 hH fl_X8_28 g17 dX8_drift_85 ?_
      refine lv_iload hx hb dX8_drift_88 (lv_at hl 0 rfl) ?_
      refine lv_iload hx hb dX8_drift_90 (lv_at hl 5 rfl) ?_
      obtain ⟨g18, hf⟩ := gd hf
      refine lv_irem hx hb dX8_drift_92 g18 ?_
      refine lv_iload hx hb dX8_drift_93 (lv_at hl 0 rfl) ?_
      refine lv_bipush (v := (8 : Int32)) hx hb dX8_drift_95 (by decide) ?_
      refine lv_idiv hx hb dX8_drift_97 (by decide) ?_
      refine lv_iconst (v := (4 : Int32)) hx hb dX8_drift_98 (by decide) ?_
      refine lv_irem hx hb dX8_drift_99 (by decide) ?_
      refine lv_iconst (v := (1 : Int32)) hx hb dX8_drift_100 (by decide) ?_
      refine lv_iload hx hb dX8_drift_101 (lv_at hl 0 rfl) ?_
      refine lv_bipush (v := (32 : Int32)) hx hb dX8_drift_103 (by decide) ?_
      refine lv_idiv hx hb dX8_drift_105 (by decide) ?_
      refine lv_bipush (v := (9 : Int32)) hx hb dX8_drift_106 (by decide) ?_
      refine lv_irem hx hb dX8_drift_108 (by decide) ?_
      refine lv_iadd hx hb dX8_drift_109 ?_
      obtain ⟨g19, hf⟩ := gd hf
      obtain ⟨z20, h20, hf⟩ := ob hf
      refine r_callVi (rest := []) C0 hH (c_X7_apprentice Γ l Λ d q17 ((((((v5 * (1103515245 : Int32)) + (12345 : Int32))).toUInt32 >>> (((16 : Int32)).toUInt32 &&& Int32.toUInt32 31)).toInt32 &&& (32767 : Int32)) - (((((v5 * (1103515245 : Int32)) + (12345 : Int32))).toUInt32 >>> (((16 : Int32)).toUInt32 &&& Int32.toUInt32 31)).toInt32 &&& (32767 : Int32)) / v4 * v4) (((((((v5 * (1103515245 : Int32)) + (12345 : Int32))).toUInt32 >>> (((16 : Int32)).toUInt32 &&& Int32.toUInt32 31)).toInt32 &&& (32767 : Int32)) / (8 : Int32)) - ((((((v5 * (1103515245 : Int32)) + (12345 : Int32))).toUInt32 >>> (((16 : Int32)).toUInt32 &&& Int32.toUInt32 31)).toInt32 &&& (32767 : Int32)) / (8 : Int32)) / (4 : Int32) * (4 : Int32)) ((1 : Int32) + (((((((v5 * (1103515245 : Int32)) + (12345 : Int32))).toUInt32 >>> (((16 : Int32)).toUInt32 &&& Int32.toUInt32 31)).toInt32 &&& (32767 : Int32)) / (32 : Int32)) - ((((((v5 * (1103515245 : Int32)) + (12345 : Int32))).toUInt32 >>> (((16 : Int32)).toUInt32 &&& Int32.toUInt32 31)).toInt32 &&& (32767 : Int32)) / (32 : Int32)) / (9 : Int32) * (9 : Int32))) z20 h20) cv_X8_166 g19 (by decide) rfl hl.1 rfl (Nat.le_of_ble_eq_true rfl) dX8_drift_110 (by decide) (fun H locs hH => ?_)
      refine lv_pop hx hb dX8_drift_113 rfl ?_
      refine lv_aload_n hx hb dX8_drift_114 rfl (lv_at hl 2 rfl) ?_
      refine r_getr C0 hH fl_X8_28 g17 dX8_drift_115 ?_
      obtain ⟨z21, h21, hf⟩ := ob hf
      refine r_callVv (rest := []) C0 hH (c_X7_passOne Γ l Λ z20.2 q17 z21 h21) cv_X8_179 g19 (by decide) rfl hl.1 rfl (Nat.le_of_ble_eq_true rfl) dX8_drift_118 (by decide) (fun H locs hH => ?_)
      refine lv_iinc (v := (v6 + (1 : Int32))) (lv' := [(6, .int (v6 + (1 : Int32))), (7, .int (((((v5 * (1103515245 : Int32)) + (12345 : Int32))).toUInt32 >>> (((16 : Int32)).toUInt32 &&& Int32.toUInt32 31)).toInt32 &&& (32767 : Int32))), (5, .int ((v5 * (1103515245 : Int32)) + (12345 : Int32))), (0, .ref (ad Γ.2.2.1 p0)), (2, .int v2), (3, .int v3), (4, .int v4)]) hx hb dX8_drift_121 hl (k := 6) rfl (congrArg (fun w => v6 + w) (by decide)) (by decide) rfl (fun ls hl => ?_)
      refine lv_goto (tgt := 55) hx hb dX8_drift_124 (by decide) ?_
      exact ih ((v5 * (1103515245 : Int32)) + (12345 : Int32)) (v6 + (1 : Int32)) z21 hf _ _ _ hH (lv_sub hl [3, 4, 5, 6, 2, 0] rfl)
set_option maxHeartbeats 4000000 in
set_option maxRecDepth 100000 in
theorem c_X8_drift (Γ : Cx) (l : Launch) (Λ : List Ly) (d : Dt) (p0 : Nat) (v1 : Int32) (v2 : Int32) (v3 : Int32) (z : Int32 × Dt) (hf : f_X8_drift Λ d p0 v1 v2 v3 = some z) : Cn Γ l yX8_drift cX8_drift 8 (some FieldType.int) 4 85 [.ref (ad Γ.2.2.1 p0), .int v1, .int v2, .int v3] Λ d (some (.int z.1)) z.2 := by
  refine Cn.of (own := "SeasonBound") (by decide +kernel) rfl (Nat.le_of_ble_eq_true rfl) ?_
  intro p e s m below meth c C0 hr hlocks hH ls hl
  have hl : lv_has ls 8 [(0, .ref (ad Γ.2.2.1 p0)), (1, .int v1), (2, .int v2), (3, .int v3)] := hl
  obtain ⟨hx, hb, hml, hown, hts, hK⟩ := id C0
  unfold f_X8_drift at hf
  refine lv_iload_n hx hb dX8_drift_0 rfl (lv_at hl 2 rfl) ?_
  refine lv_iconst (v := (1 : Int32)) hx hb dX8_drift_1 (by decide) ?_
  refine lv_bipush (v := (60 : Int32)) hx hb dX8_drift_2 (by decide) ?_
  refine r_callSi (rest := []) C0 hH (c_X8_within Γ l Λ d v2 (1 : Int32) (60 : Int32)) cs_X8_60 (by decide) rfl hl.1 rfl (Nat.le_of_ble_eq_true rfl) dX8_drift_4 (by decide) (fun H locs hH => ?_)
  refine lv_if_eq (tgt := 19) hx hb dX8_drift_7 (by decide) (fun c1 => ?_) (fun c1 => ?_)
  · replace hf := it hf c1
    refine lv_iconst (v := (-1 : Int32)) hx hb dX8_drift_19 (by decide) ?_
    obtain rfl := Option.some.inj hf
    exact r_iret (d' := d) C0 hr hlocks hH rfl dX8_drift_20
  · replace hf := ie hf c1
    refine lv_iload_n hx hb dX8_drift_10 rfl (lv_at hl 3 rfl) ?_
    refine lv_iconst (v := (0 : Int32)) hx hb dX8_drift_11 (by decide) ?_
    refine lv_iconst (v := (1 : Int32)) hx hb dX8_drift_12 (by decide) ?_
    refine r_callSi (rest := []) C0 hH (c_X8_within Γ l Λ d v3 (0 : Int32) (1 : Int32)) cs_X8_60 (by decide) rfl hl.1 rfl (Nat.le_of_ble_eq_true rfl) dX8_drift_13 (by decide) (fun H locs hH => ?_)
    refine lv_if_ne (tgt := 21) hx hb dX8_drift_16 (by decide) (fun c2 => ?_) (fun c2 => ?_)
    · replace hf := ie hf c2
      refine lv_aload_n hx hb dX8_drift_21 rfl (lv_at hl 0 rfl) ?_
      obtain ⟨q3, g3, hf⟩ := ob hf
      refine r_getr C0 hH fl_X8_24 g3 dX8_drift_22 ?_
      obtain ⟨g4, hf⟩ := gd hf
      refine r_geti C0 hH fl_X8_91 g4 rfl dX8_drift_25 ?_
      refine lv_istore (lv' := [(4, .int (d.1 q3 2)), (0, .ref (ad Γ.2.2.1 p0)), (1, .int v1), (2, .int v2), (3, .int v3)]) hx hb dX8_drift_28 hl (by decide) rfl (fun ls hl => ?_)
      refine lv_iload hx hb dX8_drift_30 (lv_at hl 0 rfl) ?_
      refine lv_if_ne (tgt := 38) hx hb dX8_drift_32 (by decide) (fun c5 => ?_) (fun c5 => ?_)
      · replace hf := ie hf c5
        refine lv_aload_n hx hb dX8_drift_38 rfl (lv_at hl 1 rfl) ?_
        obtain ⟨q6, g6, hf⟩ := ob hf
        refine r_getr C0 hH fl_X8_28 g6 dX8_drift_39 ?_
        refine lv_aload_n hx hb dX8_drift_42 rfl (lv_at hl 1 rfl) ?_
        refine r_getr C0 hH fl_X8_24 g3 dX8_drift_43 ?_
        obtain ⟨g7, hf⟩ := gd hf
        obtain ⟨z8, h8, hf⟩ := ob hf
        refine r_callVv (rest := []) C0 hH (c_X7_copy Γ l Λ d q6 q3 z8 h8) cv_X8_87 g7 (by decide) rfl hl.1 rfl (Nat.le_of_ble_eq_true rfl) dX8_drift_46 (by decide) (fun H locs hH => ?_)
        refine lv_iload_n hx hb dX8_drift_49 rfl (lv_at hl 2 rfl) ?_
        refine lv_istore (lv' := [(5, .int v1), (4, .int (d.1 q3 2)), (0, .ref (ad Γ.2.2.1 p0)), (1, .int v1), (2, .int v2), (3, .int v3)]) hx hb dX8_drift_50 hl (by decide) rfl (fun ls hl => ?_)
        refine lv_iconst (v := (0 : Int32)) hx hb dX8_drift_52 (by decide) ?_
        refine lv_istore (lv' := [(6, .int (0 : Int32)), (5, .int v1), (4, .int (d.1 q3 2)), (0, .ref (ad Γ.2.2.1 p0)), (1, .int v1), (2, .int v2), (3, .int v3)]) hx hb dX8_drift_53 hl (by decide) rfl (fun ls hl => ?_)
        refine w_X8_drift_L55 C0 hr hlocks p0 v2 v3 (d.1 q3 2) FU v1 (0 : Int32) z8 hf _ _ _ hH (lv_sub hl [3, 5, 6, 2, 1, 0] rfl)
      · replace hf := it hf c5
        refine lv_bipush (v := (-2 : Int32)) hx hb dX8_drift_35 (by decide) ?_
        obtain rfl := Option.some.inj hf
        exact r_iret (d' := d) C0 hr hlocks hH rfl dX8_drift_37
    · replace hf := it hf c2
      refine lv_iconst (v := (-1 : Int32)) hx hb dX8_drift_19 (by decide) ?_
      obtain rfl := Option.some.inj hf
      exact r_iret (d' := d) C0 hr hlocks hH rfl dX8_drift_20
theorem dX8_isImage_0 : decode cX8_isImage 0 = .ok (.iload_n 0, 1) := by decide +kernel
theorem dX8_isImage_1 : decode cX8_isImage 1 = .ok (.iconst 0, 1) := by decide +kernel
theorem dX8_isImage_2 : decode cX8_isImage 2 = .ok (.iconst 1, 1) := by decide +kernel
theorem dX8_isImage_3 : decode cX8_isImage 3 = .ok (.invokestatic 60, 3) := by decide +kernel
theorem dX8_isImage_6 : decode cX8_isImage 6 = .ok (.ireturn, 1) := by decide +kernel
def f_X8_isImage (v0 : Int32) : Int32 := (f_X8_within v0 (0 : Int32) (1 : Int32))
theorem bo_X8_isImage (v0 : Int32) : f_X8_isImage v0 = 0 ∨ f_X8_isImage v0 = 1 := by
  unfold f_X8_isImage
  (repeat' split) <;> first | exact Or.inl rfl | exact Or.inr rfl | exact bo_X8_within _ _ _
set_option maxHeartbeats 4000000 in
set_option maxRecDepth 100000 in
theorem c_X8_isImage (Γ : Cx) (l : Launch) (Λ : List Ly) (d : Dt) (v0 : Int32) : Cn Γ l yX8_isImage cX8_isImage 1 (some FieldType.boolean) 1 22 [.int v0] Λ d (some (.int (f_X8_isImage v0))) d := by
  generalize hf : f_X8_isImage v0 = z
  refine Cn.of (own := "SeasonBound") (by decide +kernel) rfl (Nat.le_of_ble_eq_true rfl) ?_
  intro p e s m below meth c C0 hr hlocks hH ls hl
  have hl : lv_has ls 1 [(0, .int v0)] := hl
  obtain ⟨hx, hb, hml, hown, hts, hK⟩ := id C0
  unfold f_X8_isImage at hf
  refine lv_iload_n hx hb dX8_isImage_0 rfl (lv_at hl 0 rfl) ?_
  refine lv_iconst (v := (0 : Int32)) hx hb dX8_isImage_1 (by decide) ?_
  refine lv_iconst (v := (1 : Int32)) hx hb dX8_isImage_2 (by decide) ?_
  refine r_callSi (rest := []) C0 hH (c_X8_within Γ l Λ d v0 (0 : Int32) (1 : Int32)) cs_X8_60 (by decide) rfl hl.1 rfl (Nat.le_of_ble_eq_true rfl) dX8_isImage_3 (by decide) (fun H locs hH => ?_)
  subst hf
  exact r_iret (d' := d) C0 hr hlocks hH (nz (bo_X8_within _ _ _)) dX8_isImage_6
theorem dX8_keep_0 : decode cX8_keep 0 = .ok (.iload_n 1, 1) := by decide +kernel
theorem dX8_keep_1 : decode cX8_keep 1 = .ok (.invokestatic 274, 3) := by decide +kernel
theorem dX8_keep_4 : decode cX8_keep 4 = .ok (.ifCond .ne 5, 3) := by decide +kernel
theorem dX8_keep_7 : decode cX8_keep 7 = .ok (.iconst (-1), 1) := by decide +kernel
theorem dX8_keep_8 : decode cX8_keep 8 = .ok (.ireturn, 1) := by decide +kernel
theorem dX8_keep_9 : decode cX8_keep 9 = .ok (.aload_n 0, 1) := by decide +kernel
theorem dX8_keep_10 : decode cX8_keep 10 = .ok (.getfield 35, 3) := by decide +kernel
theorem dX8_keep_13 : decode cX8_keep 13 = .ok (.iload_n 1, 1) := by decide +kernel
theorem dX8_keep_14 : decode cX8_keep 14 = .ok (.baload, 1) := by decide +kernel
theorem dX8_keep_15 : decode cX8_keep 15 = .ok (.ifCond .eq 7, 3) := by decide +kernel
theorem dX8_keep_18 : decode cX8_keep 18 = .ok (.iconst 1, 1) := by decide +kernel
theorem dX8_keep_19 : decode cX8_keep 19 = .ok (.goto 4, 3) := by decide +kernel
theorem dX8_keep_22 : decode cX8_keep 22 = .ok (.iconst 0, 1) := by decide +kernel
theorem dX8_keep_23 : decode cX8_keep 23 = .ok (.istore_n 2, 1) := by decide +kernel
theorem dX8_keep_24 : decode cX8_keep 24 = .ok (.aload_n 0, 1) := by decide +kernel
theorem dX8_keep_25 : decode cX8_keep 25 = .ok (.getfield 31, 3) := by decide +kernel
theorem dX8_keep_28 : decode cX8_keep 28 = .ok (.iload_n 1, 1) := by decide +kernel
theorem dX8_keep_29 : decode cX8_keep 29 = .ok (.aaload, 1) := by decide +kernel
theorem dX8_keep_30 : decode cX8_keep 30 = .ok (.aload_n 0, 1) := by decide +kernel
theorem dX8_keep_31 : decode cX8_keep 31 = .ok (.getfield 24, 3) := by decide +kernel
theorem dX8_keep_34 : decode cX8_keep 34 = .ok (.invokevirtual 87, 3) := by decide +kernel
theorem dX8_keep_37 : decode cX8_keep 37 = .ok (.aload_n 0, 1) := by decide +kernel
theorem dX8_keep_38 : decode cX8_keep 38 = .ok (.getfield 35, 3) := by decide +kernel
theorem dX8_keep_41 : decode cX8_keep 41 = .ok (.iload_n 1, 1) := by decide +kernel
theorem dX8_keep_42 : decode cX8_keep 42 = .ok (.iconst 1, 1) := by decide +kernel
theorem dX8_keep_43 : decode cX8_keep 43 = .ok (.bastore, 1) := by decide +kernel
theorem dX8_keep_44 : decode cX8_keep 44 = .ok (.iload_n 2, 1) := by decide +kernel
theorem dX8_keep_45 : decode cX8_keep 45 = .ok (.ireturn, 1) := by decide +kernel
def f_X8_keep_J23 (Λ : List Ly) (d : Dt) (p0 : Nat) (v1 : Int32) (y0 : Int32) : Option (Int32 × Dt) := Option.bind (rf Λ p0 8 4) fun q5 => Option.bind (ra Λ q5 7 v1) fun q6 => Option.bind (rf Λ p0 8 2) fun q7 => if clsAt Λ q6 = some 7 then (Option.bind (f_X7_copy Λ d q6 q7) fun z9 => Option.bind (rf Λ p0 8 5) fun q10 => if okA Λ q10 3 v1 = true then (some (y0, (pI z9 q10 (v1).toNatClampNeg (vp_nar .boolean (1 : Int32))))) else none) else none
def f_X8_keep (Λ : List Ly) (d : Dt) (p0 : Nat) (v1 : Int32) : Option (Int32 × Dt) := if (f_X8_isImage v1) = 0 then (some ((-1 : Int32), d)) else (Option.bind (rf Λ p0 8 5) fun q2 => if okA Λ q2 3 v1 = true then (if (d.1 q2 (v1).toNatClampNeg) = 0 then (f_X8_keep_J23 Λ d p0 v1 (0 : Int32)) else (f_X8_keep_J23 Λ d p0 v1 (1 : Int32))) else none)
set_option maxHeartbeats 4000000 in
set_option maxRecDepth 100000 in
theorem w_X8_keep_J23 {p : Program} {l : Launch} {e : Env} {s : State} {m : MethodId} {args : Array Value} {below : List Frame} {meth : Method} {c : Code} {Γ : Cx} {Λ : List Ly} {z : Int32 × Dt} {d : Dt} (C0 : Ct Γ p s m args c cX8_keep 3 "SeasonBound") (hr : meth.sig.returnType = (some FieldType.int)) (hlocks : meth.locks = false) (p0 : Nat) (v1 : Int32) (y0 : Int32)
    (hf : f_X8_keep_J23 Λ d p0 v1 y0 = some z) (H : Heap) (locs : List Loc) (ls : Array Slot) (hH : Hs Γ Λ d s H locs) (hl : lv_has ls 3 [(0, .ref (ad Γ.2.2.1 p0)), (1, .int v1)]) : W p l e { frames := 2, cells := 0, slots := 0, locals := 43 } s m args below meth c H locs 0 0 (MQ below (QN Γ Λ z.2 (some (.int z.1))) args s 0 0 (AP Γ)) (F0 m 23 ls [.int y0]) := by
  obtain ⟨hx, hb, hml, hown, hts, hK⟩ := id C0
  unfold f_X8_keep_J23 at hf
  refine lv_istore_n (lv' := [(2, .int y0), (0, .ref (ad Γ.2.2.1 p0)), (1, .int v1)]) hx hb dX8_keep_23 rfl hl (by decide) rfl (fun ls hl => ?_)
  refine lv_aload_n hx hb dX8_keep_24 rfl (lv_at hl 1 rfl) ?_
  obtain ⟨q5, g5, hf⟩ := ob hf
  refine r_getr C0 hH fl_X8_31 g5 dX8_keep_25 ?_
  refine lv_iload_n hx hb dX8_keep_28 rfl (lv_at hl 2 rfl) ?_
  obtain ⟨q6, g6, hf⟩ := ob hf
  refine r_aald (C := "SeasonBound$World") C0 hH g6 (by decide) rfl dX8_keep_29 ?_
  refine lv_aload_n hx hb dX8_keep_30 rfl (lv_at hl 1 rfl) ?_
  obtain ⟨q7, g7, hf⟩ := ob hf
  refine r_getr C0 hH fl_X8_24 g7 dX8_keep_31 ?_
  obtain ⟨g8, hf⟩ := gd hf
  obtain ⟨z9, h9, hf⟩ := ob hf
  refine r_callVv (rest := []) C0 hH (c_X7_copy Γ l Λ d q6 q7 z9 h9) cv_X8_87 g8 (by decide) rfl hl.1 rfl (Nat.le_of_ble_eq_true rfl) dX8_keep_34 (by decide) (fun H locs hH => ?_)
  refine lv_aload_n hx hb dX8_keep_37 rfl (lv_at hl 1 rfl) ?_
  obtain ⟨q10, g10, hf⟩ := ob hf
  refine r_getr C0 hH fl_X8_35 g10 dX8_keep_38 ?_
  refine lv_iload_n hx hb dX8_keep_41 rfl (lv_at hl 2 rfl) ?_
  refine lv_iconst (v := (1 : Int32)) hx hb dX8_keep_42 (by decide) ?_
  obtain ⟨g11, hf⟩ := gd hf
  refine r_zast C0 hH g11 dX8_keep_43 (fun H locs hH => ?_)
  refine lv_iload_n hx hb dX8_keep_44 rfl (lv_at hl 0 rfl) ?_
  obtain rfl := Option.some.inj hf
  exact r_iret (d' := d) C0 hr hlocks hH rfl dX8_keep_45
set_option maxHeartbeats 4000000 in
set_option maxRecDepth 100000 in
theorem c_X8_keep (Γ : Cx) (l : Launch) (Λ : List Ly) (d : Dt) (p0 : Nat) (v1 : Int32) (z : Int32 × Dt) (hf : f_X8_keep Λ d p0 v1 = some z) : Cn Γ l yX8_keep cX8_keep 3 (some FieldType.int) 2 43 [.ref (ad Γ.2.2.1 p0), .int v1] Λ d (some (.int z.1)) z.2 := by
  refine Cn.of (own := "SeasonBound") (by decide +kernel) rfl (Nat.le_of_ble_eq_true rfl) ?_
  intro p e s m below meth c C0 hr hlocks hH ls hl
  have hl : lv_has ls 3 [(0, .ref (ad Γ.2.2.1 p0)), (1, .int v1)] := hl
  obtain ⟨hx, hb, hml, hown, hts, hK⟩ := id C0
  unfold f_X8_keep at hf
  refine lv_iload_n hx hb dX8_keep_0 rfl (lv_at hl 1 rfl) ?_
  refine r_callSi (rest := []) C0 hH (c_X8_isImage Γ l Λ d v1) cs_X8_274 (by decide) rfl hl.1 rfl (Nat.le_of_ble_eq_true rfl) dX8_keep_1 (by decide) (fun H locs hH => ?_)
  refine lv_if_ne (tgt := 9) hx hb dX8_keep_4 (by decide) (fun c1 => ?_) (fun c1 => ?_)
  · replace hf := ie hf c1
    refine lv_aload_n hx hb dX8_keep_9 rfl (lv_at hl 0 rfl) ?_
    obtain ⟨q2, g2, hf⟩ := ob hf
    refine r_getr C0 hH fl_X8_35 g2 dX8_keep_10 ?_
    refine lv_iload_n hx hb dX8_keep_13 rfl (lv_at hl 1 rfl) ?_
    obtain ⟨g3, hf⟩ := gd hf
    refine r_zald C0 hH g3 dX8_keep_14 ?_
    refine lv_if_eq (tgt := 22) hx hb dX8_keep_15 (by decide) (fun c4 => ?_) (fun c4 => ?_)
    · replace hf := it hf c4
      refine lv_iconst (v := (0 : Int32)) hx hb dX8_keep_22 (by decide) ?_
      exact w_X8_keep_J23 C0 hr hlocks p0 v1 (0 : Int32) hf _ _ _ hH (lv_sub hl [0, 1] rfl)
    · replace hf := ie hf c4
      refine lv_iconst (v := (1 : Int32)) hx hb dX8_keep_18 (by decide) ?_
      refine lv_goto (tgt := 23) hx hb dX8_keep_19 (by decide) ?_
      exact w_X8_keep_J23 C0 hr hlocks p0 v1 (1 : Int32) hf _ _ _ hH (lv_sub hl [0, 1] rfl)
  · replace hf := it hf c1
    refine lv_iconst (v := (-1 : Int32)) hx hb dX8_keep_7 (by decide) ?_
    obtain rfl := Option.some.inj hf
    exact r_iret (d' := d) C0 hr hlocks hH rfl dX8_keep_8
theorem dX8_back_0 : decode cX8_back 0 = .ok (.iload_n 1, 1) := by decide +kernel
theorem dX8_back_1 : decode cX8_back 1 = .ok (.invokestatic 274, 3) := by decide +kernel
theorem dX8_back_4 : decode cX8_back 4 = .ok (.ifCond .ne 5, 3) := by decide +kernel
theorem dX8_back_7 : decode cX8_back 7 = .ok (.iconst (-1), 1) := by decide +kernel
theorem dX8_back_8 : decode cX8_back 8 = .ok (.ireturn, 1) := by decide +kernel
theorem dX8_back_9 : decode cX8_back 9 = .ok (.aload_n 0, 1) := by decide +kernel
theorem dX8_back_10 : decode cX8_back 10 = .ok (.getfield 35, 3) := by decide +kernel
theorem dX8_back_13 : decode cX8_back 13 = .ok (.iload_n 1, 1) := by decide +kernel
theorem dX8_back_14 : decode cX8_back 14 = .ok (.baload, 1) := by decide +kernel
theorem dX8_back_15 : decode cX8_back 15 = .ok (.ifCond .ne 6, 3) := by decide +kernel
theorem dX8_back_18 : decode cX8_back 18 = .ok (.bipush (-2), 2) := by decide +kernel
theorem dX8_back_20 : decode cX8_back 20 = .ok (.ireturn, 1) := by decide +kernel
theorem dX8_back_21 : decode cX8_back 21 = .ok (.aload_n 0, 1) := by decide +kernel
theorem dX8_back_22 : decode cX8_back 22 = .ok (.getfield 24, 3) := by decide +kernel
theorem dX8_back_25 : decode cX8_back 25 = .ok (.aload_n 0, 1) := by decide +kernel
theorem dX8_back_26 : decode cX8_back 26 = .ok (.getfield 31, 3) := by decide +kernel
theorem dX8_back_29 : decode cX8_back 29 = .ok (.iload_n 1, 1) := by decide +kernel
theorem dX8_back_30 : decode cX8_back 30 = .ok (.aaload, 1) := by decide +kernel
theorem dX8_back_31 : decode cX8_back 31 = .ok (.invokevirtual 87, 3) := by decide +kernel
theorem dX8_back_34 : decode cX8_back 34 = .ok (.aload_n 0, 1) := by decide +kernel
theorem dX8_back_35 : decode cX8_back 35 = .ok (.getfield 24, 3) := by decide +kernel
theorem dX8_back_38 : decode cX8_back 38 = .ok (.getfield 92, 3) := by decide +kernel
theorem dX8_back_41 : decode cX8_back 41 = .ok (.ireturn, 1) := by decide +kernel
def f_X8_back (Λ : List Ly) (d : Dt) (p0 : Nat) (v1 : Int32) : Option (Int32 × Dt) := if (f_X8_isImage v1) = 0 then (some ((-1 : Int32), d)) else (Option.bind (rf Λ p0 8 5) fun q2 => if okA Λ q2 3 v1 = true then (if (d.1 q2 (v1).toNatClampNeg) = 0 then (some ((-2 : Int32), d)) else (Option.bind (rf Λ p0 8 2) fun q5 => Option.bind (rf Λ p0 8 4) fun q6 => Option.bind (ra Λ q6 7 v1) fun q7 => if clsAt Λ q5 = some 7 then (Option.bind (f_X7_copy Λ d q5 q7) fun z9 => some ((z9.1 q5 5), z9)) else none)) else none)
set_option maxHeartbeats 4000000 in
set_option maxRecDepth 100000 in
theorem c_X8_back (Γ : Cx) (l : Launch) (Λ : List Ly) (d : Dt) (p0 : Nat) (v1 : Int32) (z : Int32 × Dt) (hf : f_X8_back Λ d p0 v1 = some z) : Cn Γ l yX8_back cX8_back 2 (some FieldType.int) 2 43 [.ref (ad Γ.2.2.1 p0), .int v1] Λ d (some (.int z.1)) z.2 := by
  refine Cn.of (own := "SeasonBound") (by decide +kernel) rfl (Nat.le_of_ble_eq_true rfl) ?_
  intro p e s m below meth c C0 hr hlocks hH ls hl
  have hl : lv_has ls 2 [(0, .ref (ad Γ.2.2.1 p0)), (1, .int v1)] := hl
  obtain ⟨hx, hb, hml, hown, hts, hK⟩ := id C0
  unfold f_X8_back at hf
  refine lv_iload_n hx hb dX8_back_0 rfl (lv_at hl 1 rfl) ?_
  refine r_callSi (rest := []) C0 hH (c_X8_isImage Γ l Λ d v1) cs_X8_274 (by decide) rfl hl.1 rfl (Nat.le_of_ble_eq_true rfl) dX8_back_1 (by decide) (fun H locs hH => ?_)
  refine lv_if_ne (tgt := 9) hx hb dX8_back_4 (by decide) (fun c1 => ?_) (fun c1 => ?_)
  · replace hf := ie hf c1
    refine lv_aload_n hx hb dX8_back_9 rfl (lv_at hl 0 rfl) ?_
    obtain ⟨q2, g2, hf⟩ := ob hf
    refine r_getr C0 hH fl_X8_35 g2 dX8_back_10 ?_
    refine lv_iload_n hx hb dX8_back_13 rfl (lv_at hl 1 rfl) ?_
    obtain ⟨g3, hf⟩ := gd hf
    refine r_zald C0 hH g3 dX8_back_14 ?_
    refine lv_if_ne (tgt := 21) hx hb dX8_back_15 (by decide) (fun c4 => ?_) (fun c4 => ?_)
    · replace hf := ie hf c4
      refine lv_aload_n hx hb dX8_back_21 rfl (lv_at hl 0 rfl) ?_
      obtain ⟨q5, g5, hf⟩ := ob hf
      refine r_getr C0 hH fl_X8_24 g5 dX8_back_22 ?_
      refine lv_aload_n hx hb dX8_back_25 rfl (lv_at hl 0 rfl) ?_
      obtain ⟨q6, g6, hf⟩ := ob hf
      refine r_getr C0 hH fl_X8_31 g6 dX8_back_26 ?_
      refine lv_iload_n hx hb dX8_back_29 rfl (lv_at hl 1 rfl) ?_
      obtain ⟨q7, g7, hf⟩ := ob hf
      refine r_aald (C := "SeasonBound$World") C0 hH g7 (by decide) rfl dX8_back_30 ?_
      obtain ⟨g8, hf⟩ := gd hf
      obtain ⟨z9, h9, hf⟩ := ob hf
      refine r_callVv (rest := []) C0 hH (c_X7_copy Γ l Λ d q5 q7 z9 h9) cv_X8_87 g8 (by decide) rfl hl.1 rfl (Nat.le_of_ble_eq_true rfl) dX8_back_31 (by decide) (fun H locs hH => ?_)
      refine lv_aload_n hx hb dX8_back_34 rfl (lv_at hl 0 rfl) ?_
      refine r_getr C0 hH fl_X8_24 g5 dX8_back_35 ?_
      refine r_geti C0 hH fl_X8_92 g8 rfl dX8_back_38 ?_
      obtain rfl := Option.some.inj hf
      exact r_iret (d' := d) C0 hr hlocks hH rfl dX8_back_41
    · replace hf := it hf c4
      refine lv_bipush (v := (-2 : Int32)) hx hb dX8_back_18 (by decide) ?_
      obtain rfl := Option.some.inj hf
      exact r_iret (d' := d) C0 hr hlocks hH rfl dX8_back_20
  · replace hf := it hf c1
    refine lv_iconst (v := (-1 : Int32)) hx hb dX8_back_7 (by decide) ?_
    obtain rfl := Option.some.inj hf
    exact r_iret (d' := d) C0 hr hlocks hH rfl dX8_back_8
theorem dX8_isSheet_0 : decode cX8_isSheet 0 = .ok (.iload_n 0, 1) := by decide +kernel
theorem dX8_isSheet_1 : decode cX8_isSheet 1 = .ok (.iconst 0, 1) := by decide +kernel
theorem dX8_isSheet_2 : decode cX8_isSheet 2 = .ok (.iconst 3, 1) := by decide +kernel
theorem dX8_isSheet_3 : decode cX8_isSheet 3 = .ok (.invokestatic 60, 3) := by decide +kernel
theorem dX8_isSheet_6 : decode cX8_isSheet 6 = .ok (.ireturn, 1) := by decide +kernel
def f_X8_isSheet (v0 : Int32) : Int32 := (f_X8_within v0 (0 : Int32) (3 : Int32))
theorem bo_X8_isSheet (v0 : Int32) : f_X8_isSheet v0 = 0 ∨ f_X8_isSheet v0 = 1 := by
  unfold f_X8_isSheet
  (repeat' split) <;> first | exact Or.inl rfl | exact Or.inr rfl | exact bo_X8_within _ _ _
set_option maxHeartbeats 4000000 in
set_option maxRecDepth 100000 in
theorem c_X8_isSheet (Γ : Cx) (l : Launch) (Λ : List Ly) (d : Dt) (v0 : Int32) : Cn Γ l yX8_isSheet cX8_isSheet 1 (some FieldType.boolean) 1 22 [.int v0] Λ d (some (.int (f_X8_isSheet v0))) d := by
  generalize hf : f_X8_isSheet v0 = z
  refine Cn.of (own := "SeasonBound") (by decide +kernel) rfl (Nat.le_of_ble_eq_true rfl) ?_
  intro p e s m below meth c C0 hr hlocks hH ls hl
  have hl : lv_has ls 1 [(0, .int v0)] := hl
  obtain ⟨hx, hb, hml, hown, hts, hK⟩ := id C0
  unfold f_X8_isSheet at hf
  refine lv_iload_n hx hb dX8_isSheet_0 rfl (lv_at hl 0 rfl) ?_
  refine lv_iconst (v := (0 : Int32)) hx hb dX8_isSheet_1 (by decide) ?_
  refine lv_iconst (v := (3 : Int32)) hx hb dX8_isSheet_2 (by decide) ?_
  refine r_callSi (rest := []) C0 hH (c_X8_within Γ l Λ d v0 (0 : Int32) (3 : Int32)) cs_X8_60 (by decide) rfl hl.1 rfl (Nat.le_of_ble_eq_true rfl) dX8_isSheet_3 (by decide) (fun H locs hH => ?_)
  subst hf
  exact r_iret (d' := d) C0 hr hlocks hH (nz (bo_X8_within _ _ _)) dX8_isSheet_6
theorem dX8_isLane_0 : decode cX8_isLane 0 = .ok (.iload_n 0, 1) := by decide +kernel
theorem dX8_isLane_1 : decode cX8_isLane 1 = .ok (.iconst 0, 1) := by decide +kernel
theorem dX8_isLane_2 : decode cX8_isLane 2 = .ok (.iconst 2, 1) := by decide +kernel
theorem dX8_isLane_3 : decode cX8_isLane 3 = .ok (.invokestatic 60, 3) := by decide +kernel
theorem dX8_isLane_6 : decode cX8_isLane 6 = .ok (.ireturn, 1) := by decide +kernel
def f_X8_isLane (v0 : Int32) : Int32 := (f_X8_within v0 (0 : Int32) (2 : Int32))
theorem bo_X8_isLane (v0 : Int32) : f_X8_isLane v0 = 0 ∨ f_X8_isLane v0 = 1 := by
  unfold f_X8_isLane
  (repeat' split) <;> first | exact Or.inl rfl | exact Or.inr rfl | exact bo_X8_within _ _ _
set_option maxHeartbeats 4000000 in
set_option maxRecDepth 100000 in
theorem c_X8_isLane (Γ : Cx) (l : Launch) (Λ : List Ly) (d : Dt) (v0 : Int32) : Cn Γ l yX8_isLane cX8_isLane 1 (some FieldType.boolean) 1 22 [.int v0] Λ d (some (.int (f_X8_isLane v0))) d := by
  generalize hf : f_X8_isLane v0 = z
  refine Cn.of (own := "SeasonBound") (by decide +kernel) rfl (Nat.le_of_ble_eq_true rfl) ?_
  intro p e s m below meth c C0 hr hlocks hH ls hl
  have hl : lv_has ls 1 [(0, .int v0)] := hl
  obtain ⟨hx, hb, hml, hown, hts, hK⟩ := id C0
  unfold f_X8_isLane at hf
  refine lv_iload_n hx hb dX8_isLane_0 rfl (lv_at hl 0 rfl) ?_
  refine lv_iconst (v := (0 : Int32)) hx hb dX8_isLane_1 (by decide) ?_
  refine lv_iconst (v := (2 : Int32)) hx hb dX8_isLane_2 (by decide) ?_
  refine r_callSi (rest := []) C0 hH (c_X8_within Γ l Λ d v0 (0 : Int32) (2 : Int32)) cs_X8_60 (by decide) rfl hl.1 rfl (Nat.le_of_ble_eq_true rfl) dX8_isLane_3 (by decide) (fun H locs hH => ?_)
  subst hf
  exact r_iret (d' := d) C0 hr hlocks hH (nz (bo_X8_within _ _ _)) dX8_isLane_6
theorem dX8_sheet_0 : decode cX8_sheet 0 = .ok (.iload_n 1, 1) := by decide +kernel
theorem dX8_sheet_1 : decode cX8_sheet 1 = .ok (.invokestatic 277, 3) := by decide +kernel
theorem dX8_sheet_4 : decode cX8_sheet 4 = .ok (.ifCond .eq 16, 3) := by decide +kernel
theorem dX8_sheet_7 : decode cX8_sheet 7 = .ok (.iload_n 2, 1) := by decide +kernel
theorem dX8_sheet_8 : decode cX8_sheet 8 = .ok (.invokestatic 280, 3) := by decide +kernel
theorem dX8_sheet_11 : decode cX8_sheet 11 = .ok (.ifCond .eq 9, 3) := by decide +kernel
theorem dX8_sheet_14 : decode cX8_sheet 14 = .ok (.iload_n 3, 1) := by decide +kernel
theorem dX8_sheet_15 : decode cX8_sheet 15 = .ok (.bipush 40, 2) := by decide +kernel
theorem dX8_sheet_17 : decode cX8_sheet 17 = .ok (.if_icmp .le 5, 3) := by decide +kernel
theorem dX8_sheet_20 : decode cX8_sheet 20 = .ok (.iconst (-1), 1) := by decide +kernel
theorem dX8_sheet_21 : decode cX8_sheet 21 = .ok (.ireturn, 1) := by decide +kernel
theorem dX8_sheet_22 : decode cX8_sheet 22 = .ok (.iload_n 3, 1) := by decide +kernel
theorem dX8_sheet_23 : decode cX8_sheet 23 = .ok (.ifCond .ge 6, 3) := by decide +kernel
theorem dX8_sheet_26 : decode cX8_sheet 26 = .ok (.bipush (-14), 2) := by decide +kernel
theorem dX8_sheet_28 : decode cX8_sheet 28 = .ok (.ireturn, 1) := by decide +kernel
theorem dX8_sheet_29 : decode cX8_sheet 29 = .ok (.aload_n 0, 1) := by decide +kernel
theorem dX8_sheet_30 : decode cX8_sheet 30 = .ok (.getfield 41, 3) := by decide +kernel
theorem dX8_sheet_33 : decode cX8_sheet 33 = .ok (.iload_n 1, 1) := by decide +kernel
theorem dX8_sheet_34 : decode cX8_sheet 34 = .ok (.aaload, 1) := by decide +kernel
theorem dX8_sheet_35 : decode cX8_sheet 35 = .ok (.iload_n 2, 1) := by decide +kernel
theorem dX8_sheet_36 : decode cX8_sheet 36 = .ok (.iload_n 3, 1) := by decide +kernel
theorem dX8_sheet_37 : decode cX8_sheet 37 = .ok (.invokevirtual 283, 3) := by decide +kernel
theorem dX8_sheet_40 : decode cX8_sheet 40 = .ok (.iconst 1, 1) := by decide +kernel
theorem dX8_sheet_41 : decode cX8_sheet 41 = .ok (.ireturn, 1) := by decide +kernel
def f_X8_sheet (Λ : List Ly) (d : Dt) (p0 : Nat) (v1 : Int32) (v2 : Int32) (v3 : Int32) : Option (Int32 × Dt) := if (f_X8_isSheet v1) = 0 then (some ((-1 : Int32), d)) else (if (f_X8_isLane v2) = 0 then (some ((-1 : Int32), d)) else (if v3 ≤ (40 : Int32) then (if 0 ≤ v3 then (Option.bind (rf Λ p0 8 6) fun q5 => Option.bind (ra Λ q5 6 v1) fun q6 => if clsAt Λ q6 = some 5 then (Option.bind (f_X5_renew Λ d q6 v2 v3) fun z8 => some ((1 : Int32), z8)) else none) else (some ((-14 : Int32), d))) else (some ((-1 : Int32), d))))
set_option maxHeartbeats 4000000 in
set_option maxRecDepth 100000 in
theorem c_X8_sheet (Γ : Cx) (l : Launch) (Λ : List Ly) (d : Dt) (p0 : Nat) (v1 : Int32) (v2 : Int32) (v3 : Int32) (z : Int32 × Dt) (hf : f_X8_sheet Λ d p0 v1 v2 v3 = some z) : Cn Γ l yX8_sheet cX8_sheet 4 (some FieldType.int) 2 45 [.ref (ad Γ.2.2.1 p0), .int v1, .int v2, .int v3] Λ d (some (.int z.1)) z.2 := by
  refine Cn.of (own := "SeasonBound") (by decide +kernel) rfl (Nat.le_of_ble_eq_true rfl) ?_
  intro p e s m below meth c C0 hr hlocks hH ls hl
  have hl : lv_has ls 4 [(0, .ref (ad Γ.2.2.1 p0)), (1, .int v1), (2, .int v2), (3, .int v3)] := hl
  obtain ⟨hx, hb, hml, hown, hts, hK⟩ := id C0
  unfold f_X8_sheet at hf
  refine lv_iload_n hx hb dX8_sheet_0 rfl (lv_at hl 1 rfl) ?_
  refine r_callSi (rest := []) C0 hH (c_X8_isSheet Γ l Λ d v1) cs_X8_277 (by decide) rfl hl.1 rfl (Nat.le_of_ble_eq_true rfl) dX8_sheet_1 (by decide) (fun H locs hH => ?_)
  refine lv_if_eq (tgt := 20) hx hb dX8_sheet_4 (by decide) (fun c1 => ?_) (fun c1 => ?_)
  · replace hf := it hf c1
    refine lv_iconst (v := (-1 : Int32)) hx hb dX8_sheet_20 (by decide) ?_
    obtain rfl := Option.some.inj hf
    exact r_iret (d' := d) C0 hr hlocks hH rfl dX8_sheet_21
  · replace hf := ie hf c1
    refine lv_iload_n hx hb dX8_sheet_7 rfl (lv_at hl 2 rfl) ?_
    refine r_callSi (rest := []) C0 hH (c_X8_isLane Γ l Λ d v2) cs_X8_280 (by decide) rfl hl.1 rfl (Nat.le_of_ble_eq_true rfl) dX8_sheet_8 (by decide) (fun H locs hH => ?_)
    refine lv_if_eq (tgt := 20) hx hb dX8_sheet_11 (by decide) (fun c2 => ?_) (fun c2 => ?_)
    · replace hf := it hf c2
      refine lv_iconst (v := (-1 : Int32)) hx hb dX8_sheet_20 (by decide) ?_
      obtain rfl := Option.some.inj hf
      exact r_iret (d' := d) C0 hr hlocks hH rfl dX8_sheet_21
    · replace hf := ie hf c2
      refine lv_iload_n hx hb dX8_sheet_14 rfl (lv_at hl 3 rfl) ?_
      refine lv_bipush (v := (40 : Int32)) hx hb dX8_sheet_15 (by decide) ?_
      refine lv_icmp_le (tgt := 22) hx hb dX8_sheet_17 (by decide) (fun c3 => ?_) (fun c3 => ?_)
      · replace hf := it hf c3
        refine lv_iload_n hx hb dX8_sheet_22 rfl (lv_at hl 3 rfl) ?_
        refine lv_if_ge (tgt := 29) hx hb dX8_sheet_23 (by decide) (fun c4 => ?_) (fun c4 => ?_)
        · replace hf := it hf c4
          refine lv_aload_n hx hb dX8_sheet_29 rfl (lv_at hl 0 rfl) ?_
          obtain ⟨q5, g5, hf⟩ := ob hf
          refine r_getr C0 hH fl_X8_41 g5 dX8_sheet_30 ?_
          refine lv_iload_n hx hb dX8_sheet_33 rfl (lv_at hl 1 rfl) ?_
          obtain ⟨q6, g6, hf⟩ := ob hf
          refine r_aald (C := "SeasonBound$Sheet") C0 hH g6 (by decide) rfl dX8_sheet_34 ?_
          refine lv_iload_n hx hb dX8_sheet_35 rfl (lv_at hl 2 rfl) ?_
          refine lv_iload_n hx hb dX8_sheet_36 rfl (lv_at hl 3 rfl) ?_
          obtain ⟨g7, hf⟩ := gd hf
          obtain ⟨z8, h8, hf⟩ := ob hf
          refine r_callVv (rest := []) C0 hH (c_X5_renew Γ l Λ d q6 v2 v3 z8 h8) cv_X8_283 g7 (by decide) rfl hl.1 rfl (Nat.le_of_ble_eq_true rfl) dX8_sheet_37 (by decide) (fun H locs hH => ?_)
          refine lv_iconst (v := (1 : Int32)) hx hb dX8_sheet_40 (by decide) ?_
          obtain rfl := Option.some.inj hf
          exact r_iret (d' := d) C0 hr hlocks hH rfl dX8_sheet_41
        · replace hf := ie hf c4
          refine lv_bipush (v := (-14 : Int32)) hx hb dX8_sheet_26 (by decide) ?_
          obtain rfl := Option.some.inj hf
          exact r_iret (d' := d) C0 hr hlocks hH rfl dX8_sheet_28
      · replace hf := ie hf c3
        refine lv_iconst (v := (-1 : Int32)) hx hb dX8_sheet_20 (by decide) ?_
        obtain rfl := Option.some.inj hf
        exact r_iret (d' := d) C0 hr hlocks hH rfl dX8_sheet_21
theorem dX8_lay_0 : decode cX8_lay 0 = .ok (.iload_n 1, 1) := by decide +kernel
theorem dX8_lay_1 : decode cX8_lay 1 = .ok (.invokestatic 277, 3) := by decide +kernel
theorem dX8_lay_4 : decode cX8_lay 4 = .ok (.ifCond .ne 5, 3) := by decide +kernel
theorem dX8_lay_7 : decode cX8_lay 7 = .ok (.iconst (-1), 1) := by decide +kernel
theorem dX8_lay_8 : decode cX8_lay 8 = .ok (.ireturn, 1) := by decide +kernel
theorem dX8_lay_9 : decode cX8_lay 9 = .ok (.aload_n 0, 1) := by decide +kernel
theorem dX8_lay_10 : decode cX8_lay 10 = .ok (.getfield 41, 3) := by decide +kernel
theorem dX8_lay_13 : decode cX8_lay 13 = .ok (.iload_n 1, 1) := by decide +kernel
theorem dX8_lay_14 : decode cX8_lay 14 = .ok (.aaload, 1) := by decide +kernel
theorem dX8_lay_15 : decode cX8_lay 15 = .ok (.astore 4, 2) := by decide +kernel
theorem dX8_lay_17 : decode cX8_lay 17 = .ok (.aload 4, 2) := by decide +kernel
theorem dX8_lay_19 : decode cX8_lay 19 = .ok (.aload 4, 2) := by decide +kernel
theorem dX8_lay_21 : decode cX8_lay 21 = .ok (.getfield 286, 3) := by decide +kernel
theorem dX8_lay_24 : decode cX8_lay 24 = .ok (.iload_n 2, 1) := by decide +kernel
theorem dX8_lay_25 : decode cX8_lay 25 = .ok (.iconst 1, 1) := by decide +kernel
theorem dX8_lay_26 : decode cX8_lay 26 = .ok (.invokevirtual 289, 3) := by decide +kernel
theorem dX8_lay_29 : decode cX8_lay 29 = .ok (.istore 5, 2) := by decide +kernel
theorem dX8_lay_31 : decode cX8_lay 31 = .ok (.iload 5, 2) := by decide +kernel
theorem dX8_lay_33 : decode cX8_lay 33 = .ok (.ifCond .eq 9, 3) := by decide +kernel
theorem dX8_lay_36 : decode cX8_lay 36 = .ok (.bipush (-10), 2) := by decide +kernel
theorem dX8_lay_38 : decode cX8_lay 38 = .ok (.iload 5, 2) := by decide +kernel
theorem dX8_lay_40 : decode cX8_lay 40 = .ok (.isub, 1) := by decide +kernel
theorem dX8_lay_41 : decode cX8_lay 41 = .ok (.ireturn, 1) := by decide +kernel
theorem dX8_lay_42 : decode cX8_lay 42 = .ok (.aload 4, 2) := by decide +kernel
theorem dX8_lay_44 : decode cX8_lay 44 = .ok (.iload_n 2, 1) := by decide +kernel
theorem dX8_lay_45 : decode cX8_lay 45 = .ok (.iload_n 3, 1) := by decide +kernel
theorem dX8_lay_46 : decode cX8_lay 46 = .ok (.invokevirtual 292, 3) := by decide +kernel
theorem dX8_lay_49 : decode cX8_lay 49 = .ok (.iconst 1, 1) := by decide +kernel
theorem dX8_lay_50 : decode cX8_lay 50 = .ok (.ireturn, 1) := by decide +kernel
def f_X8_lay (Λ : List Ly) (d : Dt) (p0 : Nat) (v1 : Int32) (v2 : Int32) (v3 : Int32) : Option (Int32 × Dt) := if (f_X8_isSheet v1) = 0 then (some ((-1 : Int32), d)) else (Option.bind (rf Λ p0 8 6) fun q2 => Option.bind (ra Λ q2 6 v1) fun q3 => if clsAt Λ q3 = some 5 then (Option.bind (f_X5_faultIn Λ d q3 (d.1 q3 1) v2 (1 : Int32)) fun z5 => if z5 = 0 then (Option.bind (f_X5_put Λ d q3 v2 v3) fun z7 => some ((1 : Int32), z7)) else (some (((-10 : Int32) - z5), d))) else none)
set_option maxHeartbeats 4000000 in
set_option maxRecDepth 100000 in
theorem c_X8_lay (Γ : Cx) (l : Launch) (Λ : List Ly) (d : Dt) (p0 : Nat) (v1 : Int32) (v2 : Int32) (v3 : Int32) (z : Int32 × Dt) (hf : f_X8_lay Λ d p0 v1 v2 v3 = some z) : Cn Γ l yX8_lay cX8_lay 6 (some FieldType.int) 2 45 [.ref (ad Γ.2.2.1 p0), .int v1, .int v2, .int v3] Λ d (some (.int z.1)) z.2 := by
  refine Cn.of (own := "SeasonBound") (by decide +kernel) rfl (Nat.le_of_ble_eq_true rfl) ?_
  intro p e s m below meth c C0 hr hlocks hH ls hl
  have hl : lv_has ls 6 [(0, .ref (ad Γ.2.2.1 p0)), (1, .int v1), (2, .int v2), (3, .int v3)] := hl
  obtain ⟨hx, hb, hml, hown, hts, hK⟩ := id C0
  unfold f_X8_lay at hf
  refine lv_iload_n hx hb dX8_lay_0 rfl (lv_at hl 1 rfl) ?_
  refine r_callSi (rest := []) C0 hH (c_X8_isSheet Γ l Λ d v1) cs_X8_277 (by decide) rfl hl.1 rfl (Nat.le_of_ble_eq_true rfl) dX8_lay_1 (by decide) (fun H locs hH => ?_)
  refine lv_if_ne (tgt := 9) hx hb dX8_lay_4 (by decide) (fun c1 => ?_) (fun c1 => ?_)
  · replace hf := ie hf c1
    refine lv_aload_n hx hb dX8_lay_9 rfl (lv_at hl 0 rfl) ?_
    obtain ⟨q2, g2, hf⟩ := ob hf
    refine r_getr C0 hH fl_X8_41 g2 dX8_lay_10 ?_
    refine lv_iload_n hx hb dX8_lay_13 rfl (lv_at hl 1 rfl) ?_
    obtain ⟨q3, g3, hf⟩ := ob hf
    refine r_aald (C := "SeasonBound$Sheet") C0 hH g3 (by decide) rfl dX8_lay_14 ?_
    refine lv_astore (lv' := [(4, .ref (ad Γ.2.2.1 q3)), (0, .ref (ad Γ.2.2.1 p0)), (1, .int v1), (2, .int v2), (3, .int v3)]) hx hb dX8_lay_15 hl (by decide) rfl (fun ls hl => ?_)
    refine lv_aload hx hb dX8_lay_17 (lv_at hl 0 rfl) ?_
    refine lv_aload hx hb dX8_lay_19 (lv_at hl 0 rfl) ?_
    obtain ⟨g4, hf⟩ := gd hf
    refine r_geti C0 hH fl_X8_286 g4 rfl dX8_lay_21 ?_
    refine lv_iload_n hx hb dX8_lay_24 rfl (lv_at hl 3 rfl) ?_
    refine lv_iconst (v := (1 : Int32)) hx hb dX8_lay_25 (by decide) ?_
    obtain ⟨z5, h5, hf⟩ := ob hf
    refine r_callVi (rest := []) C0 hH (c_X5_faultIn Γ l Λ d q3 (d.1 q3 1) v2 (1 : Int32) z5 h5) cv_X8_289 g4 (by decide) rfl hl.1 rfl (Nat.le_of_ble_eq_true rfl) dX8_lay_26 (by decide) (fun H locs hH => ?_)
    refine lv_istore (lv' := [(5, .int z5), (4, .ref (ad Γ.2.2.1 q3)), (0, .ref (ad Γ.2.2.1 p0)), (1, .int v1), (2, .int v2), (3, .int v3)]) hx hb dX8_lay_29 hl (by decide) rfl (fun ls hl => ?_)
    refine lv_iload hx hb dX8_lay_31 (lv_at hl 0 rfl) ?_
    refine lv_if_eq (tgt := 42) hx hb dX8_lay_33 (by decide) (fun c6 => ?_) (fun c6 => ?_)
    · replace hf := it hf c6
      refine lv_aload hx hb dX8_lay_42 (lv_at hl 1 rfl) ?_
      refine lv_iload_n hx hb dX8_lay_44 rfl (lv_at hl 4 rfl) ?_
      refine lv_iload_n hx hb dX8_lay_45 rfl (lv_at hl 5 rfl) ?_
      obtain ⟨z7, h7, hf⟩ := ob hf
      refine r_callVv (rest := []) C0 hH (c_X5_put Γ l Λ d q3 v2 v3 z7 h7) cv_X8_292 g4 (by decide) rfl hl.1 rfl (Nat.le_of_ble_eq_true rfl) dX8_lay_46 (by decide) (fun H locs hH => ?_)
      refine lv_iconst (v := (1 : Int32)) hx hb dX8_lay_49 (by decide) ?_
      obtain rfl := Option.some.inj hf
      exact r_iret (d' := d) C0 hr hlocks hH rfl dX8_lay_50
    · replace hf := ie hf c6
      refine lv_bipush (v := (-10 : Int32)) hx hb dX8_lay_36 (by decide) ?_
      refine lv_iload hx hb dX8_lay_38 (lv_at hl 0 rfl) ?_
      refine lv_isub hx hb dX8_lay_40 ?_
      obtain rfl := Option.some.inj hf
      exact r_iret (d' := d) C0 hr hlocks hH rfl dX8_lay_41
  · replace hf := it hf c1
    refine lv_iconst (v := (-1 : Int32)) hx hb dX8_lay_7 (by decide) ?_
    obtain rfl := Option.some.inj hf
    exact r_iret (d' := d) C0 hr hlocks hH rfl dX8_lay_8
