theorem dX9_looked_0 : decode cX9_looked 0 = .ok (.aload_n 0, 1) := by decide +kernel
theorem dX9_looked_1 : decode cX9_looked 1 = .ok (.getfield 63, 3) := by decide +kernel
theorem dX9_looked_4 : decode cX9_looked 4 = .ok (.ifCond .ne 21, 3) := by decide +kernel
theorem dX9_looked_7 : decode cX9_looked 7 = .ok (.aload_n 0, 1) := by decide +kernel
theorem dX9_looked_8 : decode cX9_looked 8 = .ok (.aload_n 0, 1) := by decide +kernel
theorem dX9_looked_9 : decode cX9_looked 9 = .ok (.getfield 91, 3) := by decide +kernel
theorem dX9_looked_12 : decode cX9_looked 12 = .ok (.iconst 2, 1) := by decide +kernel
theorem dX9_looked_13 : decode cX9_looked 13 = .ok (.if_icmp .ne 7, 3) := by decide +kernel
theorem dX9_looked_16 : decode cX9_looked 16 = .ok (.iconst 1, 1) := by decide +kernel
theorem dX9_looked_17 : decode cX9_looked 17 = .ok (.goto 4, 3) := by decide +kernel
theorem dX9_looked_20 : decode cX9_looked 20 = .ok (.iconst 0, 1) := by decide +kernel
theorem dX9_looked_21 : decode cX9_looked 21 = .ok (.iconst 2, 1) := by decide +kernel
theorem dX9_looked_22 : decode cX9_looked 22 = .ok (.invokevirtual 105, 3) := by decide +kernel
theorem dX9_looked_25 : decode cX9_looked 25 = .ok (.aload_n 0, 1) := by decide +kernel
theorem dX9_looked_26 : decode cX9_looked 26 = .ok (.getfield 63, 3) := by decide +kernel
theorem dX9_looked_29 : decode cX9_looked 29 = .ok (.ifCond .ne 20, 3) := by decide +kernel
theorem dX9_looked_32 : decode cX9_looked 32 = .ok (.aload_n 0, 1) := by decide +kernel
theorem dX9_looked_33 : decode cX9_looked 33 = .ok (.aload_n 0, 1) := by decide +kernel
theorem dX9_looked_34 : decode cX9_looked 34 = .ok (.getfield 102, 3) := by decide +kernel
theorem dX9_looked_37 : decode cX9_looked 37 = .ok (.i2l, 1) := by decide +kernel
theorem dX9_looked_38 : decode cX9_looked 38 = .ok (.iload_n 1, 1) := by decide +kernel
theorem dX9_looked_39 : decode cX9_looked 39 = .ok (.i2l, 1) := by decide +kernel
theorem dX9_looked_40 : decode cX9_looked 40 = .ok (.iload_n 2, 1) := by decide +kernel
theorem dX9_looked_41 : decode cX9_looked 41 = .ok (.i2l, 1) := by decide +kernel
theorem dX9_looked_42 : decode cX9_looked 42 = .ok (.invokestatic 56, 3) := by decide +kernel
theorem dX9_looked_45 : decode cX9_looked 45 = .ok (.iconst 3, 1) := by decide +kernel
theorem dX9_looked_46 : decode cX9_looked 46 = .ok (.invokevirtual 105, 3) := by decide +kernel
theorem dX9_looked_49 : decode cX9_looked 49 = .ok (.aload_n 0, 1) := by decide +kernel
theorem dX9_looked_50 : decode cX9_looked 50 = .ok (.getfield 63, 3) := by decide +kernel
theorem dX9_looked_53 : decode cX9_looked 53 = .ok (.ifCond .ne 10, 3) := by decide +kernel
theorem dX9_looked_56 : decode cX9_looked 56 = .ok (.aload_n 0, 1) := by decide +kernel
theorem dX9_looked_57 : decode cX9_looked 57 = .ok (.getfield 102, 3) := by decide +kernel
theorem dX9_looked_60 : decode cX9_looked 60 = .ok (.goto 4, 3) := by decide +kernel
theorem dX9_looked_63 : decode cX9_looked 63 = .ok (.iconst 0, 1) := by decide +kernel
theorem dX9_looked_64 : decode cX9_looked 64 = .ok (.ireturn, 1) := by decide +kernel
def f_X9_looked_J25 (Λ : List Ly) (d : Dt) (p0 : Nat) (v1 : Int32) (v2 : Int32) : Option (Int32 × Dt) := if clsAt Λ p0 = some 9 then (if (d.1 p0 11) = 0 then (Option.bind (f_X9_needs Λ d p0 (f_X9_in ((d.1 p0 10)).toInt64 (v1).toInt64 (v2).toInt64) (3 : Int32)) fun z6 => if (z6.1 p0 11) = 0 then (some ((z6.1 p0 10), z6)) else (some ((0 : Int32), z6))) else (if (d.1 p0 11) = 0 then (some ((d.1 p0 10), d)) else (some ((0 : Int32), d)))) else none
def f_X9_looked_J21 (Λ : List Ly) (d : Dt) (p0 : Nat) (v1 : Int32) (v2 : Int32) (y0 : Int32) (y1 : Nat) : Option (Int32 × Dt) := if clsAt Λ y1 = some 9 then (Option.bind (f_X9_needs Λ d y1 y0 (2 : Int32)) fun z10 => f_X9_looked_J25 Λ z10 p0 v1 v2) else none
def f_X9_looked (Λ : List Ly) (d : Dt) (p0 : Nat) (v1 : Int32) (v2 : Int32) : Option (Int32 × Dt) := if clsAt Λ p0 = some 9 then (if (d.1 p0 11) = 0 then (if (d.1 p0 9) = (2 : Int32) then (f_X9_looked_J21 Λ d p0 v1 v2 (1 : Int32) p0) else (f_X9_looked_J21 Λ d p0 v1 v2 (0 : Int32) p0)) else (f_X9_looked_J25 Λ d p0 v1 v2)) else none
set_option maxHeartbeats 4000000 in
set_option maxRecDepth 100000 in
theorem w_X9_looked_J25 {p : Program} {l : Launch} {e : Env} {s : State} {m : MethodId} {args : Array Value} {below : List Frame} {meth : Method} {c : Code} {Γ : Cx} {Λ : List Ly} {z : Int32 × Dt} {d : Dt} (C0 : Ct Γ p s m args c cX9_looked 3 "SeasonBoundModel") (hr : meth.sig.returnType = (some FieldType.int)) (hlocks : meth.locks = false) (p0 : Nat) (v1 : Int32) (v2 : Int32)
    (hf : f_X9_looked_J25 Λ d p0 v1 v2 = some z) (H : Heap) (locs : List Loc) (ls : Array Slot) (hH : Hs Γ Λ d s H locs) (hl : lv_has ls 3 [(0, .ref (ad Γ.2.2.1 p0)), (1, .int v1), (2, .int v2)]) : W p l e { frames := 1, cells := 0, slots := 0, locals := 25 } s m args below meth c H locs 0 0 (MQ below (QN Γ Λ z.2 (some (.int z.1))) args s 0 0 (AP Γ)) (F0 m 25 ls []) := by
  obtain ⟨hx, hb, hml, hown, hts, hK⟩ := id C0
  unfold f_X9_looked_J25 at hf
  refine lv_aload_n hx hb dX9_looked_25 rfl (lv_at hl 0 rfl) ?_
  obtain ⟨g3, hf⟩ := gd hf
  refine r_geti C0 hH fl_X9_63 g3 rfl dX9_looked_26 ?_
  refine lv_if_ne (tgt := 49) hx hb dX9_looked_29 (by decide) (fun c4 => ?_) (fun c4 => ?_)
  · replace hf := ie hf c4
    refine lv_aload_n hx hb dX9_looked_49 rfl (lv_at hl 0 rfl) ?_
    refine r_geti C0 hH fl_X9_63 g3 rfl dX9_looked_50 ?_
    refine lv_if_ne (tgt := 63) hx hb dX9_looked_53 (by decide) (fun c5 => ?_) (fun c5 => ?_)
    · replace hf := ie hf c5
      refine lv_iconst (v := (0 : Int32)) hx hb dX9_looked_63 (by decide) ?_
      obtain rfl := Option.some.inj hf
      exact r_iret (d' := d) C0 hr hlocks hH rfl dX9_looked_64
    · replace hf := it hf c5
      refine lv_aload_n hx hb dX9_looked_56 rfl (lv_at hl 0 rfl) ?_
      refine r_geti C0 hH fl_X9_102 g3 rfl dX9_looked_57 ?_
      refine lv_goto (tgt := 64) hx hb dX9_looked_60 (by decide) ?_
      obtain rfl := Option.some.inj hf
      exact r_iret (d' := d) C0 hr hlocks hH rfl dX9_looked_64
  · replace hf := it hf c4
    refine lv_aload_n hx hb dX9_looked_32 rfl (lv_at hl 0 rfl) ?_
    refine lv_aload_n hx hb dX9_looked_33 rfl (lv_at hl 0 rfl) ?_
    refine r_geti C0 hH fl_X9_102 g3 rfl dX9_looked_34 ?_
    refine lv_i2l (v := ((d.1 p0 10)).toInt64) hx hb dX9_looked_37 rfl ?_
    refine lv_iload_n hx hb dX9_looked_38 rfl (lv_at hl 1 rfl) ?_
    refine lv_i2l (v := (v1).toInt64) hx hb dX9_looked_39 rfl ?_
    refine lv_iload_n hx hb dX9_looked_40 rfl (lv_at hl 2 rfl) ?_
    refine lv_i2l (v := (v2).toInt64) hx hb dX9_looked_41 rfl ?_
    refine r_callSi (rest := [.ref (ad Γ.2.2.1 p0)]) C0 hH (c_X9_in Γ l Λ d ((d.1 p0 10)).toInt64 (v1).toInt64 (v2).toInt64) cs_X9_56 (by decide) rfl hl.1 rfl (Nat.le_of_ble_eq_true rfl) dX9_looked_42 (by decide) (fun H locs hH => ?_)
    refine lv_iconst (v := (3 : Int32)) hx hb dX9_looked_45 (by decide) ?_
    obtain ⟨z6, h6, hf⟩ := ob hf
    refine r_callVv (rest := []) C0 hH (c_X9_needs Γ l Λ d p0 (f_X9_in ((d.1 p0 10)).toInt64 (v1).toInt64 (v2).toInt64) (3 : Int32) z6 h6) cv_X9_105 g3 (by decide) rfl hl.1 rfl (Nat.le_of_ble_eq_true rfl) dX9_looked_46 (by decide) (fun H locs hH => ?_)
    refine lv_aload_n hx hb dX9_looked_49 rfl (lv_at hl 0 rfl) ?_
    refine r_geti C0 hH fl_X9_63 g3 rfl dX9_looked_50 ?_
    refine lv_if_ne (tgt := 63) hx hb dX9_looked_53 (by decide) (fun c7 => ?_) (fun c7 => ?_)
    · replace hf := ie hf c7
      refine lv_iconst (v := (0 : Int32)) hx hb dX9_looked_63 (by decide) ?_
      obtain rfl := Option.some.inj hf
      exact r_iret (d' := d) C0 hr hlocks hH rfl dX9_looked_64
    · replace hf := it hf c7
      refine lv_aload_n hx hb dX9_looked_56 rfl (lv_at hl 0 rfl) ?_
      refine r_geti C0 hH fl_X9_102 g3 rfl dX9_looked_57 ?_
      refine lv_goto (tgt := 64) hx hb dX9_looked_60 (by decide) ?_
      obtain rfl := Option.some.inj hf
      exact r_iret (d' := d) C0 hr hlocks hH rfl dX9_looked_64
set_option maxHeartbeats 4000000 in
set_option maxRecDepth 100000 in
theorem w_X9_looked_J21 {p : Program} {l : Launch} {e : Env} {s : State} {m : MethodId} {args : Array Value} {below : List Frame} {meth : Method} {c : Code} {Γ : Cx} {Λ : List Ly} {z : Int32 × Dt} {d : Dt} (C0 : Ct Γ p s m args c cX9_looked 3 "SeasonBoundModel") (hr : meth.sig.returnType = (some FieldType.int)) (hlocks : meth.locks = false) (p0 : Nat) (v1 : Int32) (v2 : Int32) (y0 : Int32) (y1 : Nat)
    (hf : f_X9_looked_J21 Λ d p0 v1 v2 y0 y1 = some z) (H : Heap) (locs : List Loc) (ls : Array Slot) (hH : Hs Γ Λ d s H locs) (hl : lv_has ls 3 [(0, .ref (ad Γ.2.2.1 p0)), (1, .int v1), (2, .int v2)]) : W p l e { frames := 1, cells := 0, slots := 0, locals := 25 } s m args below meth c H locs 0 0 (MQ below (QN Γ Λ z.2 (some (.int z.1))) args s 0 0 (AP Γ)) (F0 m 21 ls [.int y0, .ref (ad Γ.2.2.1 y1)]) := by
  obtain ⟨hx, hb, hml, hown, hts, hK⟩ := id C0
  unfold f_X9_looked_J21 at hf
  refine lv_iconst (v := (2 : Int32)) hx hb dX9_looked_21 (by decide) ?_
  obtain ⟨g9, hf⟩ := gd hf
  obtain ⟨z10, h10, hf⟩ := ob hf
  refine r_callVv (rest := []) C0 hH (c_X9_needs Γ l Λ d y1 y0 (2 : Int32) z10 h10) cv_X9_105 g9 (by decide) rfl hl.1 rfl (Nat.le_of_ble_eq_true rfl) dX9_looked_22 (by decide) (fun H locs hH => ?_)
  exact w_X9_looked_J25 C0 hr hlocks p0 v1 v2 hf _ _ _ hH (lv_sub hl [0, 1, 2] rfl)
set_option maxHeartbeats 4000000 in
set_option maxRecDepth 100000 in
theorem c_X9_looked (Γ : Cx) (l : Launch) (Λ : List Ly) (d : Dt) (p0 : Nat) (v1 : Int32) (v2 : Int32) (z : Int32 × Dt) (hf : f_X9_looked Λ d p0 v1 v2 = some z) : Cn Γ l yX9_looked cX9_looked 3 (some FieldType.int) 1 25 [.ref (ad Γ.2.2.1 p0), .int v1, .int v2] Λ d (some (.int z.1)) z.2 := by
  refine Cn.of (own := "SeasonBoundModel") (by decide +kernel) rfl (Nat.le_of_ble_eq_true rfl) ?_
  intro p e s m below meth c C0 hr hlocks hH ls hl
  have hl : lv_has ls 3 [(0, .ref (ad Γ.2.2.1 p0)), (1, .int v1), (2, .int v2)] := hl
  obtain ⟨hx, hb, hml, hown, hts, hK⟩ := id C0
  unfold f_X9_looked at hf
  refine lv_aload_n hx hb dX9_looked_0 rfl (lv_at hl 0 rfl) ?_
  obtain ⟨g1, hf⟩ := gd hf
  refine r_geti C0 hH fl_X9_63 g1 rfl dX9_looked_1 ?_
  refine lv_if_ne (tgt := 25) hx hb dX9_looked_4 (by decide) (fun c2 => ?_) (fun c2 => ?_)
  · replace hf := ie hf c2
    exact w_X9_looked_J25 C0 hr hlocks p0 v1 v2 hf _ _ _ hH (lv_sub hl [0, 1, 2] rfl)
  · replace hf := it hf c2
    refine lv_aload_n hx hb dX9_looked_7 rfl (lv_at hl 0 rfl) ?_
    refine lv_aload_n hx hb dX9_looked_8 rfl (lv_at hl 0 rfl) ?_
    refine r_geti C0 hH fl_X9_91 g1 rfl dX9_looked_9 ?_
    refine lv_iconst (v := (2 : Int32)) hx hb dX9_looked_12 (by decide) ?_
    refine lv_icmp_ne (tgt := 20) hx hb dX9_looked_13 (by decide) (fun c8 => ?_) (fun c8 => ?_)
    · replace hf := ie hf c8
      refine lv_iconst (v := (0 : Int32)) hx hb dX9_looked_20 (by decide) ?_
      exact w_X9_looked_J21 C0 hr hlocks p0 v1 v2 (0 : Int32) p0 hf _ _ _ hH (lv_sub hl [0, 1, 2] rfl)
    · replace hf := it hf c8
      refine lv_iconst (v := (1 : Int32)) hx hb dX9_looked_16 (by decide) ?_
      refine lv_goto (tgt := 21) hx hb dX9_looked_17 (by decide) ?_
      exact w_X9_looked_J21 C0 hr hlocks p0 v1 v2 (1 : Int32) p0 hf _ _ _ hH (lv_sub hl [0, 1, 2] rfl)
theorem dX9_readNumber_0 : decode cX9_readNumber 0 = .ok (.aload_n 0, 1) := by decide +kernel
theorem dX9_readNumber_1 : decode cX9_readNumber 1 = .ok (.iload_n 1, 1) := by decide +kernel
theorem dX9_readNumber_2 : decode cX9_readNumber 2 = .ok (.iload_n 2, 1) := by decide +kernel
theorem dX9_readNumber_3 : decode cX9_readNumber 3 = .ok (.invokevirtual 109, 3) := by decide +kernel
theorem dX9_readNumber_6 : decode cX9_readNumber 6 = .ok (.istore_n 3, 1) := by decide +kernel
theorem dX9_readNumber_7 : decode cX9_readNumber 7 = .ok (.aload_n 0, 1) := by decide +kernel
theorem dX9_readNumber_8 : decode cX9_readNumber 8 = .ok (.invokevirtual 113, 3) := by decide +kernel
theorem dX9_readNumber_11 : decode cX9_readNumber 11 = .ok (.iload_n 3, 1) := by decide +kernel
theorem dX9_readNumber_12 : decode cX9_readNumber 12 = .ok (.ireturn, 1) := by decide +kernel
def f_X9_readNumber (Λ : List Ly) (d : Dt) (p0 : Nat) (v1 : Int32) (v2 : Int32) : Option (Int32 × Dt) := if clsAt Λ p0 = some 9 then (Option.bind (f_X9_looked Λ d p0 v1 v2) fun z2 => Option.bind (f_X9_reads Λ z2.2 p0) fun z3 => some (z2.1, z3)) else none
set_option maxHeartbeats 4000000 in
set_option maxRecDepth 100000 in
theorem c_X9_readNumber (Γ : Cx) (l : Launch) (Λ : List Ly) (d : Dt) (p0 : Nat) (v1 : Int32) (v2 : Int32) (z : Int32 × Dt) (hf : f_X9_readNumber Λ d p0 v1 v2 = some z) : Cn Γ l yX9_readNumber cX9_readNumber 4 (some FieldType.int) 2 47 [.ref (ad Γ.2.2.1 p0), .int v1, .int v2] Λ d (some (.int z.1)) z.2 := by
  refine Cn.of (own := "SeasonBoundModel") (by decide +kernel) rfl (Nat.le_of_ble_eq_true rfl) ?_
  intro p e s m below meth c C0 hr hlocks hH ls hl
  have hl : lv_has ls 4 [(0, .ref (ad Γ.2.2.1 p0)), (1, .int v1), (2, .int v2)] := hl
  obtain ⟨hx, hb, hml, hown, hts, hK⟩ := id C0
  unfold f_X9_readNumber at hf
  refine lv_aload_n hx hb dX9_readNumber_0 rfl (lv_at hl 0 rfl) ?_
  refine lv_iload_n hx hb dX9_readNumber_1 rfl (lv_at hl 1 rfl) ?_
  refine lv_iload_n hx hb dX9_readNumber_2 rfl (lv_at hl 2 rfl) ?_
  obtain ⟨g1, hf⟩ := gd hf
  obtain ⟨z2, h2, hf⟩ := ob hf
  refine r_callVi (rest := []) C0 hH (c_X9_looked Γ l Λ d p0 v1 v2 z2 h2) cv_X9_109 g1 (by decide) rfl hl.1 rfl (Nat.le_of_ble_eq_true rfl) dX9_readNumber_3 (by decide) (fun H locs hH => ?_)
  refine lv_istore_n (lv' := [(3, .int z2.1), (0, .ref (ad Γ.2.2.1 p0)), (1, .int v1), (2, .int v2)]) hx hb dX9_readNumber_6 rfl hl (by decide) rfl (fun ls hl => ?_)
  refine lv_aload_n hx hb dX9_readNumber_7 rfl (lv_at hl 1 rfl) ?_
  obtain ⟨z3, h3, hf⟩ := ob hf
  refine r_callVv (rest := []) C0 hH (c_X9_reads Γ l Λ z2.2 p0 z3 h3) cv_X9_113 g1 (by decide) rfl hl.1 rfl (Nat.le_of_ble_eq_true rfl) dX9_readNumber_8 (by decide) (fun H locs hH => ?_)
  refine lv_iload_n hx hb dX9_readNumber_11 rfl (lv_at hl 0 rfl) ?_
  obtain rfl := Option.some.inj hf
  exact r_iret (d' := d) C0 hr hlocks hH rfl dX9_readNumber_12
theorem dX9_readSeason_0 : decode cX9_readSeason 0 = .ok (.aload_n 0, 1) := by decide +kernel
theorem dX9_readSeason_1 : decode cX9_readSeason 1 = .ok (.getfield 20, 3) := by decide +kernel
theorem dX9_readSeason_4 : decode cX9_readSeason 4 = .ok (.iconst 3, 1) := by decide +kernel
theorem dX9_readSeason_5 : decode cX9_readSeason 5 = .ok (.iload_n 1, 1) := by decide +kernel
theorem dX9_readSeason_6 : decode cX9_readSeason 6 = .ok (.imul, 1) := by decide +kernel
theorem dX9_readSeason_7 : decode cX9_readSeason 7 = .ok (.iconst 0, 1) := by decide +kernel
theorem dX9_readSeason_8 : decode cX9_readSeason 8 = .ok (.iadd, 1) := by decide +kernel
theorem dX9_readSeason_9 : decode cX9_readSeason 9 = .ok (.aload_n 0, 1) := by decide +kernel
theorem dX9_readSeason_10 : decode cX9_readSeason 10 = .ok (.iconst 1, 1) := by decide +kernel
theorem dX9_readSeason_11 : decode cX9_readSeason 11 = .ok (.bipush 9, 2) := by decide +kernel
theorem dX9_readSeason_13 : decode cX9_readSeason 13 = .ok (.invokevirtual 116, 3) := by decide +kernel
theorem dX9_readSeason_16 : decode cX9_readSeason 16 = .ok (.iastore, 1) := by decide +kernel
theorem dX9_readSeason_17 : decode cX9_readSeason 17 = .ok (.aload_n 0, 1) := by decide +kernel
theorem dX9_readSeason_18 : decode cX9_readSeason 18 = .ok (.getfield 20, 3) := by decide +kernel
theorem dX9_readSeason_21 : decode cX9_readSeason 21 = .ok (.iconst 3, 1) := by decide +kernel
theorem dX9_readSeason_22 : decode cX9_readSeason 22 = .ok (.iload_n 1, 1) := by decide +kernel
theorem dX9_readSeason_23 : decode cX9_readSeason 23 = .ok (.imul, 1) := by decide +kernel
theorem dX9_readSeason_24 : decode cX9_readSeason 24 = .ok (.iconst 1, 1) := by decide +kernel
theorem dX9_readSeason_25 : decode cX9_readSeason 25 = .ok (.iadd, 1) := by decide +kernel
theorem dX9_readSeason_26 : decode cX9_readSeason 26 = .ok (.aload_n 0, 1) := by decide +kernel
theorem dX9_readSeason_27 : decode cX9_readSeason 27 = .ok (.iconst 0, 1) := by decide +kernel
theorem dX9_readSeason_28 : decode cX9_readSeason 28 = .ok (.bipush 9, 2) := by decide +kernel
theorem dX9_readSeason_30 : decode cX9_readSeason 30 = .ok (.invokevirtual 116, 3) := by decide +kernel
theorem dX9_readSeason_33 : decode cX9_readSeason 33 = .ok (.iastore, 1) := by decide +kernel
theorem dX9_readSeason_34 : decode cX9_readSeason 34 = .ok (.aload_n 0, 1) := by decide +kernel
theorem dX9_readSeason_35 : decode cX9_readSeason 35 = .ok (.getfield 20, 3) := by decide +kernel
theorem dX9_readSeason_38 : decode cX9_readSeason 38 = .ok (.iconst 3, 1) := by decide +kernel
theorem dX9_readSeason_39 : decode cX9_readSeason 39 = .ok (.iload_n 1, 1) := by decide +kernel
theorem dX9_readSeason_40 : decode cX9_readSeason 40 = .ok (.imul, 1) := by decide +kernel
theorem dX9_readSeason_41 : decode cX9_readSeason 41 = .ok (.iconst 2, 1) := by decide +kernel
theorem dX9_readSeason_42 : decode cX9_readSeason 42 = .ok (.iadd, 1) := by decide +kernel
theorem dX9_readSeason_43 : decode cX9_readSeason 43 = .ok (.aload_n 0, 1) := by decide +kernel
theorem dX9_readSeason_44 : decode cX9_readSeason 44 = .ok (.iconst 0, 1) := by decide +kernel
theorem dX9_readSeason_45 : decode cX9_readSeason 45 = .ok (.bipush 99, 2) := by decide +kernel
theorem dX9_readSeason_47 : decode cX9_readSeason 47 = .ok (.invokevirtual 116, 3) := by decide +kernel
theorem dX9_readSeason_50 : decode cX9_readSeason 50 = .ok (.iastore, 1) := by decide +kernel
theorem dX9_readSeason_51 : decode cX9_readSeason 51 = .ok (.return_, 1) := by decide +kernel
def f_X9_readSeason (Λ : List Ly) (d : Dt) (p0 : Nat) (v1 : Int32) : Option Dt := Option.bind (rf Λ p0 9 3) fun q1 => if clsAt Λ p0 = some 9 then (Option.bind (f_X9_readNumber Λ d p0 (1 : Int32) (9 : Int32)) fun z3 => if okA Λ q1 1 (((3 : Int32) * v1) + (0 : Int32)) = true then (Option.bind (f_X9_readNumber Λ (pI z3.2 q1 ((((3 : Int32) * v1) + (0 : Int32))).toNatClampNeg z3.1) p0 (0 : Int32) (9 : Int32)) fun z5 => if okA Λ q1 1 (((3 : Int32) * v1) + (1 : Int32)) = true then (Option.bind (f_X9_readNumber Λ (pI z5.2 q1 ((((3 : Int32) * v1) + (1 : Int32))).toNatClampNeg z5.1) p0 (0 : Int32) (99 : Int32)) fun z7 => if okA Λ q1 1 (((3 : Int32) * v1) + (2 : Int32)) = true then (some (pI z7.2 q1 ((((3 : Int32) * v1) + (2 : Int32))).toNatClampNeg z7.1)) else none) else none) else none) else none
set_option maxHeartbeats 4000000 in
set_option maxRecDepth 100000 in
theorem c_X9_readSeason (Γ : Cx) (l : Launch) (Λ : List Ly) (d : Dt) (p0 : Nat) (v1 : Int32) (z : Dt) (hf : f_X9_readSeason Λ d p0 v1 = some z) : Cn Γ l yX9_readSeason cX9_readSeason 2 none 3 70 [.ref (ad Γ.2.2.1 p0), .int v1] Λ d none z := by
  refine Cn.of (own := "SeasonBoundModel") (by decide +kernel) rfl (Nat.le_of_ble_eq_true rfl) ?_
  intro p e s m below meth c C0 hr hlocks hH ls hl
  have hl : lv_has ls 2 [(0, .ref (ad Γ.2.2.1 p0)), (1, .int v1)] := hl
  obtain ⟨hx, hb, hml, hown, hts, hK⟩ := id C0
  unfold f_X9_readSeason at hf
  refine lv_aload_n hx hb dX9_readSeason_0 rfl (lv_at hl 0 rfl) ?_
  obtain ⟨q1, g1, hf⟩ := ob hf
  refine r_getr C0 hH fl_X9_20 g1 dX9_readSeason_1 ?_
  refine lv_iconst (v := (3 : Int32)) hx hb dX9_readSeason_4 (by decide) ?_
  refine lv_iload_n hx hb dX9_readSeason_5 rfl (lv_at hl 1 rfl) ?_
  refine lv_imul hx hb dX9_readSeason_6 ?_
  refine lv_iconst (v := (0 : Int32)) hx hb dX9_readSeason_7 (by decide) ?_
  refine lv_iadd hx hb dX9_readSeason_8 ?_
  refine lv_aload_n hx hb dX9_readSeason_9 rfl (lv_at hl 0 rfl) ?_
  refine lv_iconst (v := (1 : Int32)) hx hb dX9_readSeason_10 (by decide) ?_
  refine lv_bipush (v := (9 : Int32)) hx hb dX9_readSeason_11 (by decide) ?_
  obtain ⟨g2, hf⟩ := gd hf
  obtain ⟨z3, h3, hf⟩ := ob hf
  refine r_callVi (rest := [.int (((3 : Int32) * v1) + (0 : Int32)), .ref (ad Γ.2.2.1 q1)]) C0 hH (c_X9_readNumber Γ l Λ d p0 (1 : Int32) (9 : Int32) z3 h3) cv_X9_116 g2 (by decide) rfl hl.1 rfl (Nat.le_of_ble_eq_true rfl) dX9_readSeason_13 (by decide) (fun H locs hH => ?_)
  obtain ⟨g4, hf⟩ := gd hf
  refine r_iast C0 hH g4 dX9_readSeason_16 (fun H locs hH => ?_)
  refine lv_aload_n hx hb dX9_readSeason_17 rfl (lv_at hl 0 rfl) ?_
  refine r_getr C0 hH fl_X9_20 g1 dX9_readSeason_18 ?_
  refine lv_iconst (v := (3 : Int32)) hx hb dX9_readSeason_21 (by decide) ?_
  refine lv_iload_n hx hb dX9_readSeason_22 rfl (lv_at hl 1 rfl) ?_
  refine lv_imul hx hb dX9_readSeason_23 ?_
  refine lv_iconst (v := (1 : Int32)) hx hb dX9_readSeason_24 (by decide) ?_
  refine lv_iadd hx hb dX9_readSeason_25 ?_
  refine lv_aload_n hx hb dX9_readSeason_26 rfl (lv_at hl 0 rfl) ?_
  refine lv_iconst (v := (0 : Int32)) hx hb dX9_readSeason_27 (by decide) ?_
  refine lv_bipush (v := (9 : Int32)) hx hb dX9_readSeason_28 (by decide) ?_
  obtain ⟨z5, h5, hf⟩ := ob hf
  refine r_callVi (rest := [.int (((3 : Int32) * v1) + (1 : Int32)), .ref (ad Γ.2.2.1 q1)]) C0 hH (c_X9_readNumber Γ l Λ (pI z3.2 q1 ((((3 : Int32) * v1) + (0 : Int32))).toNatClampNeg z3.1) p0 (0 : Int32) (9 : Int32) z5 h5) cv_X9_116 g2 (by decide) rfl hl.1 rfl (Nat.le_of_ble_eq_true rfl) dX9_readSeason_30 (by decide) (fun H locs hH => ?_)
  obtain ⟨g6, hf⟩ := gd hf
  refine r_iast C0 hH g6 dX9_readSeason_33 (fun H locs hH => ?_)
  refine lv_aload_n hx hb dX9_readSeason_34 rfl (lv_at hl 0 rfl) ?_
  refine r_getr C0 hH fl_X9_20 g1 dX9_readSeason_35 ?_
  refine lv_iconst (v := (3 : Int32)) hx hb dX9_readSeason_38 (by decide) ?_
  refine lv_iload_n hx hb dX9_readSeason_39 rfl (lv_at hl 1 rfl) ?_
  refine lv_imul hx hb dX9_readSeason_40 ?_
  refine lv_iconst (v := (2 : Int32)) hx hb dX9_readSeason_41 (by decide) ?_
  refine lv_iadd hx hb dX9_readSeason_42 ?_
  refine lv_aload_n hx hb dX9_readSeason_43 rfl (lv_at hl 0 rfl) ?_
  refine lv_iconst (v := (0 : Int32)) hx hb dX9_readSeason_44 (by decide) ?_
  refine lv_bipush (v := (99 : Int32)) hx hb dX9_readSeason_45 (by decide) ?_
  obtain ⟨z7, h7, hf⟩ := ob hf
  refine r_callVi (rest := [.int (((3 : Int32) * v1) + (2 : Int32)), .ref (ad Γ.2.2.1 q1)]) C0 hH (c_X9_readNumber Γ l Λ (pI z5.2 q1 ((((3 : Int32) * v1) + (1 : Int32))).toNatClampNeg z5.1) p0 (0 : Int32) (99 : Int32) z7 h7) cv_X9_116 g2 (by decide) rfl hl.1 rfl (Nat.le_of_ble_eq_true rfl) dX9_readSeason_47 (by decide) (fun H locs hH => ?_)
  obtain ⟨g8, hf⟩ := gd hf
  refine r_iast C0 hH g8 dX9_readSeason_50 (fun H locs hH => ?_)
  obtain rfl := Option.some.inj hf
  exact r_vret C0 hr hlocks hH dX9_readSeason_51
theorem dX9_readChild_0 : decode cX9_readChild 0 = .ok (.bipush 12, 2) := by decide +kernel
theorem dX9_readChild_2 : decode cX9_readChild 2 = .ok (.iconst 5, 1) := by decide +kernel
theorem dX9_readChild_3 : decode cX9_readChild 3 = .ok (.aload_n 0, 1) := by decide +kernel
theorem dX9_readChild_4 : decode cX9_readChild 4 = .ok (.getfield 20, 3) := by decide +kernel
theorem dX9_readChild_7 : decode cX9_readChild 7 = .ok (.bipush 37, 2) := by decide +kernel
theorem dX9_readChild_9 : decode cX9_readChild 9 = .ok (.iaload, 1) := by decide +kernel
theorem dX9_readChild_10 : decode cX9_readChild 10 = .ok (.imul, 1) := by decide +kernel
theorem dX9_readChild_11 : decode cX9_readChild 11 = .ok (.iadd, 1) := by decide +kernel
theorem dX9_readChild_12 : decode cX9_readChild 12 = .ok (.istore_n 2, 1) := by decide +kernel
theorem dX9_readChild_13 : decode cX9_readChild 13 = .ok (.aload_n 0, 1) := by decide +kernel
theorem dX9_readChild_14 : decode cX9_readChild 14 = .ok (.iconst 0, 1) := by decide +kernel
theorem dX9_readChild_15 : decode cX9_readChild 15 = .ok (.bipush 9, 2) := by decide +kernel
theorem dX9_readChild_17 : decode cX9_readChild 17 = .ok (.invokevirtual 109, 3) := by decide +kernel
theorem dX9_readChild_20 : decode cX9_readChild 20 = .ok (.istore_n 3, 1) := by decide +kernel
theorem dX9_readChild_21 : decode cX9_readChild 21 = .ok (.aload_n 0, 1) := by decide +kernel
theorem dX9_readChild_22 : decode cX9_readChild 22 = .ok (.iload_n 3, 1) := by decide +kernel
theorem dX9_readChild_23 : decode cX9_readChild 23 = .ok (.iconst 4, 1) := by decide +kernel
theorem dX9_readChild_24 : decode cX9_readChild 24 = .ok (.if_icmp .lt 9, 3) := by decide +kernel
theorem dX9_readChild_27 : decode cX9_readChild 27 = .ok (.iload_n 3, 1) := by decide +kernel
theorem dX9_readChild_28 : decode cX9_readChild 28 = .ok (.bipush 9, 2) := by decide +kernel
theorem dX9_readChild_30 : decode cX9_readChild 30 = .ok (.if_icmp .ne 7, 3) := by decide +kernel
theorem dX9_readChild_33 : decode cX9_readChild 33 = .ok (.iconst 1, 1) := by decide +kernel
theorem dX9_readChild_34 : decode cX9_readChild 34 = .ok (.goto 4, 3) := by decide +kernel
theorem dX9_readChild_37 : decode cX9_readChild 37 = .ok (.iconst 0, 1) := by decide +kernel
theorem dX9_readChild_38 : decode cX9_readChild 38 = .ok (.iconst 3, 1) := by decide +kernel
theorem dX9_readChild_39 : decode cX9_readChild 39 = .ok (.invokevirtual 105, 3) := by decide +kernel
theorem dX9_readChild_42 : decode cX9_readChild 42 = .ok (.aload_n 0, 1) := by decide +kernel
theorem dX9_readChild_43 : decode cX9_readChild 43 = .ok (.invokevirtual 113, 3) := by decide +kernel
theorem dX9_readChild_46 : decode cX9_readChild 46 = .ok (.aload_n 0, 1) := by decide +kernel
theorem dX9_readChild_47 : decode cX9_readChild 47 = .ok (.iconst 1, 1) := by decide +kernel
theorem dX9_readChild_48 : decode cX9_readChild 48 = .ok (.bipush 99, 2) := by decide +kernel
theorem dX9_readChild_50 : decode cX9_readChild 50 = .ok (.invokevirtual 116, 3) := by decide +kernel
theorem dX9_readChild_53 : decode cX9_readChild 53 = .ok (.istore 4, 2) := by decide +kernel
theorem dX9_readChild_55 : decode cX9_readChild 55 = .ok (.aload_n 0, 1) := by decide +kernel
theorem dX9_readChild_56 : decode cX9_readChild 56 = .ok (.getfield 20, 3) := by decide +kernel
theorem dX9_readChild_59 : decode cX9_readChild 59 = .ok (.iload_n 2, 1) := by decide +kernel
theorem dX9_readChild_60 : decode cX9_readChild 60 = .ok (.iconst 0, 1) := by decide +kernel
theorem dX9_readChild_61 : decode cX9_readChild 61 = .ok (.iadd, 1) := by decide +kernel
theorem dX9_readChild_62 : decode cX9_readChild 62 = .ok (.iload_n 1, 1) := by decide +kernel
theorem dX9_readChild_63 : decode cX9_readChild 63 = .ok (.iastore, 1) := by decide +kernel
theorem dX9_readChild_64 : decode cX9_readChild 64 = .ok (.aload_n 0, 1) := by decide +kernel
theorem dX9_readChild_65 : decode cX9_readChild 65 = .ok (.getfield 20, 3) := by decide +kernel
theorem dX9_readChild_68 : decode cX9_readChild 68 = .ok (.iload_n 2, 1) := by decide +kernel
theorem dX9_readChild_69 : decode cX9_readChild 69 = .ok (.iconst 1, 1) := by decide +kernel
theorem dX9_readChild_70 : decode cX9_readChild 70 = .ok (.iadd, 1) := by decide +kernel
theorem dX9_readChild_71 : decode cX9_readChild 71 = .ok (.iload_n 3, 1) := by decide +kernel
theorem dX9_readChild_72 : decode cX9_readChild 72 = .ok (.bipush 9, 2) := by decide +kernel
theorem dX9_readChild_74 : decode cX9_readChild 74 = .ok (.if_icmp .ne 8, 3) := by decide +kernel
theorem dX9_readChild_77 : decode cX9_readChild 77 = .ok (.bipush (-4), 2) := by decide +kernel
theorem dX9_readChild_79 : decode cX9_readChild 79 = .ok (.goto 4, 3) := by decide +kernel
theorem dX9_readChild_82 : decode cX9_readChild 82 = .ok (.iload_n 3, 1) := by decide +kernel
theorem dX9_readChild_83 : decode cX9_readChild 83 = .ok (.iastore, 1) := by decide +kernel
theorem dX9_readChild_84 : decode cX9_readChild 84 = .ok (.aload_n 0, 1) := by decide +kernel
theorem dX9_readChild_85 : decode cX9_readChild 85 = .ok (.getfield 20, 3) := by decide +kernel
theorem dX9_readChild_88 : decode cX9_readChild 88 = .ok (.iload_n 2, 1) := by decide +kernel
theorem dX9_readChild_89 : decode cX9_readChild 89 = .ok (.iconst 2, 1) := by decide +kernel
theorem dX9_readChild_90 : decode cX9_readChild 90 = .ok (.iadd, 1) := by decide +kernel
theorem dX9_readChild_91 : decode cX9_readChild 91 = .ok (.iload_n 3, 1) := by decide +kernel
theorem dX9_readChild_92 : decode cX9_readChild 92 = .ok (.bipush 9, 2) := by decide +kernel
theorem dX9_readChild_94 : decode cX9_readChild 94 = .ok (.if_icmp .ne 7, 3) := by decide +kernel
theorem dX9_readChild_97 : decode cX9_readChild 97 = .ok (.iconst 0, 1) := by decide +kernel
theorem dX9_readChild_98 : decode cX9_readChild 98 = .ok (.goto 5, 3) := by decide +kernel
theorem dX9_readChild_101 : decode cX9_readChild 101 = .ok (.iload 4, 2) := by decide +kernel
theorem dX9_readChild_103 : decode cX9_readChild 103 = .ok (.iastore, 1) := by decide +kernel
theorem dX9_readChild_104 : decode cX9_readChild 104 = .ok (.aload_n 0, 1) := by decide +kernel
theorem dX9_readChild_105 : decode cX9_readChild 105 = .ok (.getfield 20, 3) := by decide +kernel
theorem dX9_readChild_108 : decode cX9_readChild 108 = .ok (.bipush 37, 2) := by decide +kernel
theorem dX9_readChild_110 : decode cX9_readChild 110 = .ok (.dup2, 1) := by decide +kernel
theorem dX9_readChild_111 : decode cX9_readChild 111 = .ok (.iaload, 1) := by decide +kernel
theorem dX9_readChild_112 : decode cX9_readChild 112 = .ok (.iconst 1, 1) := by decide +kernel
theorem dX9_readChild_113 : decode cX9_readChild 113 = .ok (.iadd, 1) := by decide +kernel
theorem dX9_readChild_114 : decode cX9_readChild 114 = .ok (.iastore, 1) := by decide +kernel
theorem dX9_readChild_115 : decode cX9_readChild 115 = .ok (.return_, 1) := by decide +kernel
def f_X9_readChild_J83 (Λ : List Ly) (d : Dt) (p0 : Nat) (v2 : Int32) (v3 : Int32) (v4 : Int32) (y0 : Int32) (y1 : Int32) (y2 : Nat) : Option Dt := if okA Λ y2 1 y1 = true then (Option.bind (rf Λ p0 9 3) fun q15 => if v3 = (9 : Int32) then (if okA Λ q15 1 (v2 + (2 : Int32)) = true then (if okA Λ q15 1 (37 : Int32) = true then (some (pI (pI (pI d y2 (y1).toNatClampNeg y0) q15 ((v2 + (2 : Int32))).toNatClampNeg (0 : Int32)) q15 ((37 : Int32)).toNatClampNeg (((pI (pI d y2 (y1).toNatClampNeg y0) q15 ((v2 + (2 : Int32))).toNatClampNeg (0 : Int32)).1 q15 ((37 : Int32)).toNatClampNeg) + (1 : Int32)))) else none) else none) else (if okA Λ q15 1 (v2 + (2 : Int32)) = true then (if okA Λ q15 1 (37 : Int32) = true then (some (pI (pI (pI d y2 (y1).toNatClampNeg y0) q15 ((v2 + (2 : Int32))).toNatClampNeg v4) q15 ((37 : Int32)).toNatClampNeg (((pI (pI d y2 (y1).toNatClampNeg y0) q15 ((v2 + (2 : Int32))).toNatClampNeg v4).1 q15 ((37 : Int32)).toNatClampNeg) + (1 : Int32)))) else none) else none)) else none
def f_X9_readChild_J38 (Λ : List Ly) (d : Dt) (p0 : Nat) (v1 : Int32) (v2 : Int32) (v3 : Int32) (y0 : Int32) (y1 : Nat) : Option Dt := if clsAt Λ y1 = some 9 then (Option.bind (f_X9_needs Λ d y1 y0 (3 : Int32)) fun z7 => if clsAt Λ p0 = some 9 then (Option.bind (f_X9_reads Λ z7 p0) fun z9 => Option.bind (f_X9_readNumber Λ z9 p0 (1 : Int32) (99 : Int32)) fun z10 => Option.bind (rf Λ p0 9 3) fun q11 => if okA Λ q11 1 (v2 + (0 : Int32)) = true then (if v3 = (9 : Int32) then (f_X9_readChild_J83 Λ (pI z10.2 q11 ((v2 + (0 : Int32))).toNatClampNeg v1) p0 v2 v3 z10.1 (-4 : Int32) (v2 + (1 : Int32)) q11) else (f_X9_readChild_J83 Λ (pI z10.2 q11 ((v2 + (0 : Int32))).toNatClampNeg v1) p0 v2 v3 z10.1 v3 (v2 + (1 : Int32)) q11)) else none) else none) else none
def f_X9_readChild_J33 (Λ : List Ly) (d : Dt) (p0 : Nat) (v1 : Int32) (v2 : Int32) (v3 : Int32) (y0 : Nat) : Option Dt := f_X9_readChild_J38 Λ d p0 v1 v2 v3 (1 : Int32) y0
def f_X9_readChild (Λ : List Ly) (d : Dt) (p0 : Nat) (v1 : Int32) : Option Dt := Option.bind (rf Λ p0 9 3) fun q1 => if okA Λ q1 1 (37 : Int32) = true then (if clsAt Λ p0 = some 9 then (Option.bind (f_X9_looked Λ d p0 (0 : Int32) (9 : Int32)) fun z4 => if z4.1 < (4 : Int32) then (f_X9_readChild_J33 Λ z4.2 p0 v1 ((12 : Int32) + ((5 : Int32) * (d.1 q1 ((37 : Int32)).toNatClampNeg))) z4.1 p0) else (if z4.1 = (9 : Int32) then (f_X9_readChild_J33 Λ z4.2 p0 v1 ((12 : Int32) + ((5 : Int32) * (d.1 q1 ((37 : Int32)).toNatClampNeg))) z4.1 p0) else (f_X9_readChild_J38 Λ z4.2 p0 v1 ((12 : Int32) + ((5 : Int32) * (d.1 q1 ((37 : Int32)).toNatClampNeg))) z4.1 (0 : Int32) p0))) else none) else none
set_option maxHeartbeats 4000000 in
set_option maxRecDepth 100000 in
theorem w_X9_readChild_J83 {p : Program} {l : Launch} {e : Env} {s : State} {m : MethodId} {args : Array Value} {below : List Frame} {meth : Method} {c : Code} {Γ : Cx} {Λ : List Ly} {z : Dt} {d : Dt} (C0 : Ct Γ p s m args c cX9_readChild 5 "SeasonBoundModel") (hr : meth.sig.returnType = none) (hlocks : meth.locks = false) (p0 : Nat) (v2 : Int32) (v3 : Int32) (v4 : Int32) (y0 : Int32) (y1 : Int32) (y2 : Nat)
    (hf : f_X9_readChild_J83 Λ d p0 v2 v3 v4 y0 y1 y2 = some z) (H : Heap) (locs : List Loc) (ls : Array Slot) (hH : Hs Γ Λ d s H locs) (hl : lv_has ls 5 [(0, .ref (ad Γ.2.2.1 p0)), (2, .int v2), (3, .int v3), (4, .int v4)]) : W p l e { frames := 3, cells := 0, slots := 0, locals := 70 } s m args below meth c H locs 0 0 (MQ below (QN Γ Λ z none) args s 0 0 (AP Γ)) (F0 m 83 ls [.int y0, .int y1, .ref (ad Γ.2.2.1 y2)]) := by
  obtain ⟨hx, hb, hml, hown, hts, hK⟩ := id C0
  unfold f_X9_readChild_J83 at hf
  obtain ⟨g14, hf⟩ := gd hf
  refine r_iast C0 hH g14 dX9_readChild_83 (fun H locs hH => ?_)
  refine lv_aload_n hx hb dX9_readChild_84 rfl (lv_at hl 0 rfl) ?_
  obtain ⟨q15, g15, hf⟩ := ob hf
  refine r_getr C0 hH fl_X9_20 g15 dX9_readChild_85 ?_
  refine lv_iload_n hx hb dX9_readChild_88 rfl (lv_at hl 1 rfl) ?_
  refine lv_iconst (v := (2 : Int32)) hx hb dX9_readChild_89 (by decide) ?_
  refine lv_iadd hx hb dX9_readChild_90 ?_
  refine lv_iload_n hx hb dX9_readChild_91 rfl (lv_at hl 2 rfl) ?_
  refine lv_bipush (v := (9 : Int32)) hx hb dX9_readChild_92 (by decide) ?_
  refine lv_icmp_ne (tgt := 101) hx hb dX9_readChild_94 (by decide) (fun c16 => ?_) (fun c16 => ?_)
  · replace hf := ie hf c16
    refine lv_iload hx hb dX9_readChild_101 (lv_at hl 3 rfl) ?_
    obtain ⟨g17, hf⟩ := gd hf
    refine r_iast C0 hH g17 dX9_readChild_103 (fun H locs hH => ?_)
    refine lv_aload_n hx hb dX9_readChild_104 rfl (lv_at hl 0 rfl) ?_
    refine r_getr C0 hH fl_X9_20 g15 dX9_readChild_105 ?_
    refine lv_bipush (v := (37 : Int32)) hx hb dX9_readChild_108 (by decide) ?_
    refine lv_dup2_11 hx hb dX9_readChild_110 rfl rfl ?_
    obtain ⟨g18, hf⟩ := gd hf
    refine r_iald C0 hH g18 dX9_readChild_111 ?_
    refine lv_iconst (v := (1 : Int32)) hx hb dX9_readChild_112 (by decide) ?_
    refine lv_iadd hx hb dX9_readChild_113 ?_
    refine r_iast C0 hH g18 dX9_readChild_114 (fun H locs hH => ?_)
    obtain rfl := Option.some.inj hf
    exact r_vret C0 hr hlocks hH dX9_readChild_115
  · replace hf := it hf c16
    refine lv_iconst (v := (0 : Int32)) hx hb dX9_readChild_97 (by decide) ?_
    refine lv_goto (tgt := 103) hx hb dX9_readChild_98 (by decide) ?_
    obtain ⟨g19, hf⟩ := gd hf
    refine r_iast C0 hH g19 dX9_readChild_103 (fun H locs hH => ?_)
    refine lv_aload_n hx hb dX9_readChild_104 rfl (lv_at hl 0 rfl) ?_
    refine r_getr C0 hH fl_X9_20 g15 dX9_readChild_105 ?_
    refine lv_bipush (v := (37 : Int32)) hx hb dX9_readChild_108 (by decide) ?_
    refine lv_dup2_11 hx hb dX9_readChild_110 rfl rfl ?_
    obtain ⟨g20, hf⟩ := gd hf
    refine r_iald C0 hH g20 dX9_readChild_111 ?_
    refine lv_iconst (v := (1 : Int32)) hx hb dX9_readChild_112 (by decide) ?_
    refine lv_iadd hx hb dX9_readChild_113 ?_
    refine r_iast C0 hH g20 dX9_readChild_114 (fun H locs hH => ?_)
    obtain rfl := Option.some.inj hf
    exact r_vret C0 hr hlocks hH dX9_readChild_115
set_option maxHeartbeats 4000000 in
set_option maxRecDepth 100000 in
theorem w_X9_readChild_J38 {p : Program} {l : Launch} {e : Env} {s : State} {m : MethodId} {args : Array Value} {below : List Frame} {meth : Method} {c : Code} {Γ : Cx} {Λ : List Ly} {z : Dt} {d : Dt} (C0 : Ct Γ p s m args c cX9_readChild 5 "SeasonBoundModel") (hr : meth.sig.returnType = none) (hlocks : meth.locks = false) (p0 : Nat) (v1 : Int32) (v2 : Int32) (v3 : Int32) (y0 : Int32) (y1 : Nat)
    (hf : f_X9_readChild_J38 Λ d p0 v1 v2 v3 y0 y1 = some z) (H : Heap) (locs : List Loc) (ls : Array Slot) (hH : Hs Γ Λ d s H locs) (hl : lv_has ls 5 [(0, .ref (ad Γ.2.2.1 p0)), (1, .int v1), (2, .int v2), (3, .int v3)]) : W p l e { frames := 3, cells := 0, slots := 0, locals := 70 } s m args below meth c H locs 0 0 (MQ below (QN Γ Λ z none) args s 0 0 (AP Γ)) (F0 m 38 ls [.int y0, .ref (ad Γ.2.2.1 y1)]) := by
  obtain ⟨hx, hb, hml, hown, hts, hK⟩ := id C0
  unfold f_X9_readChild_J38 at hf
  refine lv_iconst (v := (3 : Int32)) hx hb dX9_readChild_38 (by decide) ?_
  obtain ⟨g6, hf⟩ := gd hf
  obtain ⟨z7, h7, hf⟩ := ob hf
  refine r_callVv (rest := []) C0 hH (c_X9_needs Γ l Λ d y1 y0 (3 : Int32) z7 h7) cv_X9_105 g6 (by decide) rfl hl.1 rfl (Nat.le_of_ble_eq_true rfl) dX9_readChild_39 (by decide) (fun H locs hH => ?_)
  refine lv_aload_n hx hb dX9_readChild_42 rfl (lv_at hl 0 rfl) ?_
  obtain ⟨g8, hf⟩ := gd hf
  obtain ⟨z9, h9, hf⟩ := ob hf
  refine r_callVv (rest := []) C0 hH (c_X9_reads Γ l Λ z7 p0 z9 h9) cv_X9_113 g8 (by decide) rfl hl.1 rfl (Nat.le_of_ble_eq_true rfl) dX9_readChild_43 (by decide) (fun H locs hH => ?_)
  refine lv_aload_n hx hb dX9_readChild_46 rfl (lv_at hl 0 rfl) ?_
  refine lv_iconst (v := (1 : Int32)) hx hb dX9_readChild_47 (by decide) ?_
  refine lv_bipush (v := (99 : Int32)) hx hb dX9_readChild_48 (by decide) ?_
  obtain ⟨z10, h10, hf⟩ := ob hf
  refine r_callVi (rest := []) C0 hH (c_X9_readNumber Γ l Λ z9 p0 (1 : Int32) (99 : Int32) z10 h10) cv_X9_116 g8 (by decide) rfl hl.1 rfl (Nat.le_of_ble_eq_true rfl) dX9_readChild_50 (by decide) (fun H locs hH => ?_)
  refine lv_istore (lv' := [(4, .int z10.1), (0, .ref (ad Γ.2.2.1 p0)), (1, .int v1), (2, .int v2), (3, .int v3)]) hx hb dX9_readChild_53 hl (by decide) rfl (fun ls hl => ?_)
  refine lv_aload_n hx hb dX9_readChild_55 rfl (lv_at hl 1 rfl) ?_
  obtain ⟨q11, g11, hf⟩ := ob hf
  refine r_getr C0 hH fl_X9_20 g11 dX9_readChild_56 ?_
  refine lv_iload_n hx hb dX9_readChild_59 rfl (lv_at hl 3 rfl) ?_
  refine lv_iconst (v := (0 : Int32)) hx hb dX9_readChild_60 (by decide) ?_
  refine lv_iadd hx hb dX9_readChild_61 ?_
  refine lv_iload_n hx hb dX9_readChild_62 rfl (lv_at hl 2 rfl) ?_
  obtain ⟨g12, hf⟩ := gd hf
  refine r_iast C0 hH g12 dX9_readChild_63 (fun H locs hH => ?_)
  refine lv_aload_n hx hb dX9_readChild_64 rfl (lv_at hl 1 rfl) ?_
  refine r_getr C0 hH fl_X9_20 g11 dX9_readChild_65 ?_
  refine lv_iload_n hx hb dX9_readChild_68 rfl (lv_at hl 3 rfl) ?_
  refine lv_iconst (v := (1 : Int32)) hx hb dX9_readChild_69 (by decide) ?_
  refine lv_iadd hx hb dX9_readChild_70 ?_
  refine lv_iload_n hx hb dX9_readChild_71 rfl (lv_at hl 4 rfl) ?_
  refine lv_bipush (v := (9 : Int32)) hx hb dX9_readChild_72 (by decide) ?_
  refine lv_icmp_ne (tgt := 82) hx hb dX9_readChild_74 (by decide) (fun c13 => ?_) (fun c13 => ?_)
  · replace hf := ie hf c13
    refine lv_iload_n hx hb dX9_readChild_82 rfl (lv_at hl 4 rfl) ?_
    exact w_X9_readChild_J83 C0 hr hlocks p0 v2 v3 z10.1 v3 (v2 + (1 : Int32)) q11 hf _ _ _ hH (lv_sub hl [1, 3, 4, 0] rfl)
  · replace hf := it hf c13
    refine lv_bipush (v := (-4 : Int32)) hx hb dX9_readChild_77 (by decide) ?_
    refine lv_goto (tgt := 83) hx hb dX9_readChild_79 (by decide) ?_
    exact w_X9_readChild_J83 C0 hr hlocks p0 v2 v3 z10.1 (-4 : Int32) (v2 + (1 : Int32)) q11 hf _ _ _ hH (lv_sub hl [1, 3, 4, 0] rfl)
set_option maxHeartbeats 4000000 in
set_option maxRecDepth 100000 in
theorem w_X9_readChild_J33 {p : Program} {l : Launch} {e : Env} {s : State} {m : MethodId} {args : Array Value} {below : List Frame} {meth : Method} {c : Code} {Γ : Cx} {Λ : List Ly} {z : Dt} {d : Dt} (C0 : Ct Γ p s m args c cX9_readChild 5 "SeasonBoundModel") (hr : meth.sig.returnType = none) (hlocks : meth.locks = false) (p0 : Nat) (v1 : Int32) (v2 : Int32) (v3 : Int32) (y0 : Nat)
    (hf : f_X9_readChild_J33 Λ d p0 v1 v2 v3 y0 = some z) (H : Heap) (locs : List Loc) (ls : Array Slot) (hH : Hs Γ Λ d s H locs) (hl : lv_has ls 5 [(0, .ref (ad Γ.2.2.1 p0)), (1, .int v1), (2, .int v2), (3, .int v3)]) : W p l e { frames := 3, cells := 0, slots := 0, locals := 70 } s m args below meth c H locs 0 0 (MQ below (QN Γ Λ z none) args s 0 0 (AP Γ)) (F0 m 33 ls [.ref (ad Γ.2.2.1 y0)]) := by
  obtain ⟨hx, hb, hml, hown, hts, hK⟩ := id C0
  unfold f_X9_readChild_J33 at hf
  refine lv_iconst (v := (1 : Int32)) hx hb dX9_readChild_33 (by decide) ?_
  refine lv_goto (tgt := 38) hx hb dX9_readChild_34 (by decide) ?_
  exact w_X9_readChild_J38 C0 hr hlocks p0 v1 v2 v3 (1 : Int32) y0 hf _ _ _ hH (lv_sub hl [0, 1, 2, 3] rfl)
set_option maxHeartbeats 4000000 in
set_option maxRecDepth 100000 in
theorem c_X9_readChild (Γ : Cx) (l : Launch) (Λ : List Ly) (d : Dt) (p0 : Nat) (v1 : Int32) (z : Dt) (hf : f_X9_readChild Λ d p0 v1 = some z) : Cn Γ l yX9_readChild cX9_readChild 5 none 3 70 [.ref (ad Γ.2.2.1 p0), .int v1] Λ d none z := by
  refine Cn.of (own := "SeasonBoundModel") (by decide +kernel) rfl (Nat.le_of_ble_eq_true rfl) ?_
  intro p e s m below meth c C0 hr hlocks hH ls hl
  have hl : lv_has ls 5 [(0, .ref (ad Γ.2.2.1 p0)), (1, .int v1)] := hl
  obtain ⟨hx, hb, hml, hown, hts, hK⟩ := id C0
  unfold f_X9_readChild at hf
  refine lv_bipush (v := (12 : Int32)) hx hb dX9_readChild_0 (by decide) ?_
  refine lv_iconst (v := (5 : Int32)) hx hb dX9_readChild_2 (by decide) ?_
  refine lv_aload_n hx hb dX9_readChild_3 rfl (lv_at hl 0 rfl) ?_
  obtain ⟨q1, g1, hf⟩ := ob hf
  refine r_getr C0 hH fl_X9_20 g1 dX9_readChild_4 ?_
  refine lv_bipush (v := (37 : Int32)) hx hb dX9_readChild_7 (by decide) ?_
  obtain ⟨g2, hf⟩ := gd hf
  refine r_iald C0 hH g2 dX9_readChild_9 ?_
  refine lv_imul hx hb dX9_readChild_10 ?_
  refine lv_iadd hx hb dX9_readChild_11 ?_
  refine lv_istore_n (lv' := [(2, .int ((12 : Int32) + ((5 : Int32) * (d.1 q1 ((37 : Int32)).toNatClampNeg)))), (0, .ref (ad Γ.2.2.1 p0)), (1, .int v1)]) hx hb dX9_readChild_12 rfl hl (by decide) rfl (fun ls hl => ?_)
  refine lv_aload_n hx hb dX9_readChild_13 rfl (lv_at hl 1 rfl) ?_
  refine lv_iconst (v := (0 : Int32)) hx hb dX9_readChild_14 (by decide) ?_
  refine lv_bipush (v := (9 : Int32)) hx hb dX9_readChild_15 (by decide) ?_
  obtain ⟨g3, hf⟩ := gd hf
  obtain ⟨z4, h4, hf⟩ := ob hf
  refine r_callVi (rest := []) C0 hH (c_X9_looked Γ l Λ d p0 (0 : Int32) (9 : Int32) z4 h4) cv_X9_109 g3 (by decide) rfl hl.1 rfl (Nat.le_of_ble_eq_true rfl) dX9_readChild_17 (by decide) (fun H locs hH => ?_)
  refine lv_istore_n (lv' := [(3, .int z4.1), (2, .int ((12 : Int32) + ((5 : Int32) * (d.1 q1 ((37 : Int32)).toNatClampNeg)))), (0, .ref (ad Γ.2.2.1 p0)), (1, .int v1)]) hx hb dX9_readChild_20 rfl hl (by decide) rfl (fun ls hl => ?_)
  refine lv_aload_n hx hb dX9_readChild_21 rfl (lv_at hl 2 rfl) ?_
  refine lv_iload_n hx hb dX9_readChild_22 rfl (lv_at hl 0 rfl) ?_
  refine lv_iconst (v := (4 : Int32)) hx hb dX9_readChild_23 (by decide) ?_
  refine lv_icmp_lt (tgt := 33) hx hb dX9_readChild_24 (by decide) (fun c5 => ?_) (fun c5 => ?_)
  · replace hf := it hf c5
    exact w_X9_readChild_J33 C0 hr hlocks p0 v1 ((12 : Int32) + ((5 : Int32) * (d.1 q1 ((37 : Int32)).toNatClampNeg))) z4.1 p0 hf _ _ _ hH (lv_sub hl [2, 3, 1, 0] rfl)
  · replace hf := ie hf c5
    refine lv_iload_n hx hb dX9_readChild_27 rfl (lv_at hl 0 rfl) ?_
    refine lv_bipush (v := (9 : Int32)) hx hb dX9_readChild_28 (by decide) ?_
    refine lv_icmp_ne (tgt := 37) hx hb dX9_readChild_30 (by decide) (fun c21 => ?_) (fun c21 => ?_)
    · replace hf := ie hf c21
      refine lv_iconst (v := (0 : Int32)) hx hb dX9_readChild_37 (by decide) ?_
      exact w_X9_readChild_J38 C0 hr hlocks p0 v1 ((12 : Int32) + ((5 : Int32) * (d.1 q1 ((37 : Int32)).toNatClampNeg))) z4.1 (0 : Int32) p0 hf _ _ _ hH (lv_sub hl [2, 3, 1, 0] rfl)
    · replace hf := it hf c21
      exact w_X9_readChild_J33 C0 hr hlocks p0 v1 ((12 : Int32) + ((5 : Int32) * (d.1 q1 ((37 : Int32)).toNatClampNeg))) z4.1 p0 hf _ _ _ hH (lv_sub hl [2, 3, 1, 0] rfl)
theorem dX9_readLine_0 : decode cX9_readLine 0 = .ok (.aload_n 0, 1) := by decide +kernel
theorem dX9_readLine_1 : decode cX9_readLine 1 = .ok (.getfield 91, 3) := by decide +kernel
theorem dX9_readLine_4 : decode cX9_readLine 4 = .ok (.iconst 1, 1) := by decide +kernel
theorem dX9_readLine_5 : decode cX9_readLine 5 = .ok (.if_icmp .ne 10, 3) := by decide +kernel
theorem dX9_readLine_8 : decode cX9_readLine 8 = .ok (.aload_n 0, 1) := by decide +kernel
theorem dX9_readLine_9 : decode cX9_readLine 9 = .ok (.invokevirtual 119, 3) := by decide +kernel
theorem dX9_readLine_12 : decode cX9_readLine 12 = .ok (.goto 5, 3) := by decide +kernel
theorem dX9_readLine_15 : decode cX9_readLine 15 = .ok (.bipush (-4), 2) := by decide +kernel
theorem dX9_readLine_17 : decode cX9_readLine 17 = .ok (.istore_n 1, 1) := by decide +kernel
theorem dX9_readLine_18 : decode cX9_readLine 18 = .ok (.aload_n 0, 1) := by decide +kernel
theorem dX9_readLine_19 : decode cX9_readLine 19 = .ok (.iload_n 1, 1) := by decide +kernel
theorem dX9_readLine_20 : decode cX9_readLine 20 = .ok (.bipush (-4), 2) := by decide +kernel
theorem dX9_readLine_22 : decode cX9_readLine 22 = .ok (.if_icmp .eq 7, 3) := by decide +kernel
theorem dX9_readLine_25 : decode cX9_readLine 25 = .ok (.iconst 1, 1) := by decide +kernel
theorem dX9_readLine_26 : decode cX9_readLine 26 = .ok (.goto 4, 3) := by decide +kernel
theorem dX9_readLine_29 : decode cX9_readLine 29 = .ok (.iconst 0, 1) := by decide +kernel
theorem dX9_readLine_30 : decode cX9_readLine 30 = .ok (.iconst 2, 1) := by decide +kernel
theorem dX9_readLine_31 : decode cX9_readLine 31 = .ok (.invokevirtual 105, 3) := by decide +kernel
theorem dX9_readLine_34 : decode cX9_readLine 34 = .ok (.aload_n 0, 1) := by decide +kernel
theorem dX9_readLine_35 : decode cX9_readLine 35 = .ok (.iload_n 1, 1) := by decide +kernel
theorem dX9_readLine_36 : decode cX9_readLine 36 = .ok (.iconst 4, 1) := by decide +kernel
theorem dX9_readLine_37 : decode cX9_readLine 37 = .ok (.if_icmp .ge 14, 3) := by decide +kernel
theorem dX9_readLine_40 : decode cX9_readLine 40 = .ok (.aload_n 0, 1) := by decide +kernel
theorem dX9_readLine_41 : decode cX9_readLine 41 = .ok (.getfield 20, 3) := by decide +kernel
theorem dX9_readLine_44 : decode cX9_readLine 44 = .ok (.bipush 37, 2) := by decide +kernel
theorem dX9_readLine_46 : decode cX9_readLine 46 = .ok (.iaload, 1) := by decide +kernel
theorem dX9_readLine_47 : decode cX9_readLine 47 = .ok (.iconst 5, 1) := by decide +kernel
theorem dX9_readLine_48 : decode cX9_readLine 48 = .ok (.if_icmp .ge 7, 3) := by decide +kernel
theorem dX9_readLine_51 : decode cX9_readLine 51 = .ok (.iconst 1, 1) := by decide +kernel
theorem dX9_readLine_52 : decode cX9_readLine 52 = .ok (.goto 4, 3) := by decide +kernel
theorem dX9_readLine_55 : decode cX9_readLine 55 = .ok (.iconst 0, 1) := by decide +kernel
theorem dX9_readLine_56 : decode cX9_readLine 56 = .ok (.iconst 5, 1) := by decide +kernel
theorem dX9_readLine_57 : decode cX9_readLine 57 = .ok (.invokevirtual 105, 3) := by decide +kernel
theorem dX9_readLine_60 : decode cX9_readLine 60 = .ok (.aload_n 0, 1) := by decide +kernel
theorem dX9_readLine_61 : decode cX9_readLine 61 = .ok (.iload_n 1, 1) := by decide +kernel
theorem dX9_readLine_62 : decode cX9_readLine 62 = .ok (.iconst 4, 1) := by decide +kernel
theorem dX9_readLine_63 : decode cX9_readLine 63 = .ok (.if_icmp .lt 14, 3) := by decide +kernel
theorem dX9_readLine_66 : decode cX9_readLine 66 = .ok (.aload_n 0, 1) := by decide +kernel
theorem dX9_readLine_67 : decode cX9_readLine 67 = .ok (.getfield 50, 3) := by decide +kernel
theorem dX9_readLine_70 : decode cX9_readLine 70 = .ok (.iload_n 1, 1) := by decide +kernel
theorem dX9_readLine_71 : decode cX9_readLine 71 = .ok (.ishr, 1) := by decide +kernel
theorem dX9_readLine_72 : decode cX9_readLine 72 = .ok (.iconst 1, 1) := by decide +kernel
theorem dX9_readLine_73 : decode cX9_readLine 73 = .ok (.iand, 1) := by decide +kernel
theorem dX9_readLine_74 : decode cX9_readLine 74 = .ok (.ifCond .ne 7, 3) := by decide +kernel
theorem dX9_readLine_77 : decode cX9_readLine 77 = .ok (.iconst 1, 1) := by decide +kernel
theorem dX9_readLine_78 : decode cX9_readLine 78 = .ok (.goto 4, 3) := by decide +kernel
theorem dX9_readLine_81 : decode cX9_readLine 81 = .ok (.iconst 0, 1) := by decide +kernel
theorem dX9_readLine_82 : decode cX9_readLine 82 = .ok (.iconst 4, 1) := by decide +kernel
theorem dX9_readLine_83 : decode cX9_readLine 83 = .ok (.invokevirtual 105, 3) := by decide +kernel
theorem dX9_readLine_86 : decode cX9_readLine 86 = .ok (.aload_n 0, 1) := by decide +kernel
theorem dX9_readLine_87 : decode cX9_readLine 87 = .ok (.invokevirtual 113, 3) := by decide +kernel
theorem dX9_readLine_90 : decode cX9_readLine 90 = .ok (.aload_n 0, 1) := by decide +kernel
theorem dX9_readLine_91 : decode cX9_readLine 91 = .ok (.getfield 63, 3) := by decide +kernel
theorem dX9_readLine_94 : decode cX9_readLine 94 = .ok (.ifCond .le 4, 3) := by decide +kernel
theorem dX9_readLine_97 : decode cX9_readLine 97 = .ok (.return_, 1) := by decide +kernel
theorem dX9_readLine_98 : decode cX9_readLine 98 = .ok (.aload_n 0, 1) := by decide +kernel
theorem dX9_readLine_99 : decode cX9_readLine 99 = .ok (.dup, 1) := by decide +kernel
theorem dX9_readLine_100 : decode cX9_readLine 100 = .ok (.getfield 50, 3) := by decide +kernel
theorem dX9_readLine_103 : decode cX9_readLine 103 = .ok (.iconst 1, 1) := by decide +kernel
theorem dX9_readLine_104 : decode cX9_readLine 104 = .ok (.iload_n 1, 1) := by decide +kernel
theorem dX9_readLine_105 : decode cX9_readLine 105 = .ok (.ishl, 1) := by decide +kernel
theorem dX9_readLine_106 : decode cX9_readLine 106 = .ok (.ior, 1) := by decide +kernel
theorem dX9_readLine_107 : decode cX9_readLine 107 = .ok (.putfield 50, 3) := by decide +kernel
theorem dX9_readLine_110 : decode cX9_readLine 110 = .ok (.iload_n 1, 1) := by decide +kernel
theorem dX9_readLine_111 : decode cX9_readLine 111 = .ok (.iconst 4, 1) := by decide +kernel
theorem dX9_readLine_112 : decode cX9_readLine 112 = .ok (.if_icmp .ge 11, 3) := by decide +kernel
theorem dX9_readLine_115 : decode cX9_readLine 115 = .ok (.aload_n 0, 1) := by decide +kernel
theorem dX9_readLine_116 : decode cX9_readLine 116 = .ok (.iload_n 1, 1) := by decide +kernel
theorem dX9_readLine_117 : decode cX9_readLine 117 = .ok (.invokevirtual 122, 3) := by decide +kernel
theorem dX9_readLine_120 : decode cX9_readLine 120 = .ok (.goto 10, 3) := by decide +kernel
theorem dX9_readLine_123 : decode cX9_readLine 123 = .ok (.aload_n 0, 1) := by decide +kernel
theorem dX9_readLine_124 : decode cX9_readLine 124 = .ok (.iload_n 1, 1) := by decide +kernel
theorem dX9_readLine_125 : decode cX9_readLine 125 = .ok (.iconst 4, 1) := by decide +kernel
theorem dX9_readLine_126 : decode cX9_readLine 126 = .ok (.isub, 1) := by decide +kernel
theorem dX9_readLine_127 : decode cX9_readLine 127 = .ok (.invokevirtual 126, 3) := by decide +kernel
theorem dX9_readLine_130 : decode cX9_readLine 130 = .ok (.aload_n 0, 1) := by decide +kernel
theorem dX9_readLine_131 : decode cX9_readLine 131 = .ok (.getfield 63, 3) := by decide +kernel
theorem dX9_readLine_134 : decode cX9_readLine 134 = .ok (.ifCond .ne 21, 3) := by decide +kernel
theorem dX9_readLine_137 : decode cX9_readLine 137 = .ok (.aload_n 0, 1) := by decide +kernel
theorem dX9_readLine_138 : decode cX9_readLine 138 = .ok (.aload_n 0, 1) := by decide +kernel
theorem dX9_readLine_139 : decode cX9_readLine 139 = .ok (.getfield 91, 3) := by decide +kernel
theorem dX9_readLine_142 : decode cX9_readLine 142 = .ok (.iconst 3, 1) := by decide +kernel
theorem dX9_readLine_143 : decode cX9_readLine 143 = .ok (.if_icmp .ne 7, 3) := by decide +kernel
theorem dX9_readLine_146 : decode cX9_readLine 146 = .ok (.iconst 1, 1) := by decide +kernel
theorem dX9_readLine_147 : decode cX9_readLine 147 = .ok (.goto 4, 3) := by decide +kernel
theorem dX9_readLine_150 : decode cX9_readLine 150 = .ok (.iconst 0, 1) := by decide +kernel
theorem dX9_readLine_151 : decode cX9_readLine 151 = .ok (.iconst 2, 1) := by decide +kernel
theorem dX9_readLine_152 : decode cX9_readLine 152 = .ok (.invokevirtual 105, 3) := by decide +kernel
theorem dX9_readLine_155 : decode cX9_readLine 155 = .ok (.aload_n 0, 1) := by decide +kernel
theorem dX9_readLine_156 : decode cX9_readLine 156 = .ok (.invokevirtual 113, 3) := by decide +kernel
theorem dX9_readLine_159 : decode cX9_readLine 159 = .ok (.return_, 1) := by decide +kernel
def f_X9_readLine_J130 (Λ : List Ly) (d : Dt) (p0 : Nat) : Option Dt := if clsAt Λ p0 = some 9 then (if (d.1 p0 11) = 0 then (if (d.1 p0 9) = (3 : Int32) then (Option.bind (f_X9_needs Λ d p0 (1 : Int32) (2 : Int32)) fun z23 => Option.bind (f_X9_reads Λ z23 p0) fun z24 => some z24) else (Option.bind (f_X9_needs Λ d p0 (0 : Int32) (2 : Int32)) fun z21 => Option.bind (f_X9_reads Λ z21 p0) fun z22 => some z22)) else (Option.bind (f_X9_reads Λ d p0) fun z19 => some z19)) else none
def f_X9_readLine_J82 (Λ : List Ly) (d : Dt) (p0 : Nat) (v1 : Int32) (y0 : Int32) (y1 : Nat) : Option Dt := if clsAt Λ y1 = some 9 then (Option.bind (f_X9_needs Λ d y1 y0 (4 : Int32)) fun z11 => if clsAt Λ p0 = some 9 then (Option.bind (f_X9_reads Λ z11 p0) fun z13 => if (z13.1 p0 11) ≤ 0 then (if (4 : Int32) ≤ v1 then (Option.bind (f_X9_readSeason Λ (pI z13 p0 4 ((z13.1 p0 4) ||| ((1 : Int32) <<< (v1 &&& 31)))) p0 (v1 - (4 : Int32))) fun z16 => f_X9_readLine_J130 Λ z16 p0) else (Option.bind (f_X9_readChild Λ (pI z13 p0 4 ((z13.1 p0 4) ||| ((1 : Int32) <<< (v1 &&& 31)))) p0 v1) fun z25 => f_X9_readLine_J130 Λ z25 p0)) else (some z13)) else none) else none
def f_X9_readLine_J77 (Λ : List Ly) (d : Dt) (p0 : Nat) (v1 : Int32) (y0 : Nat) : Option Dt := f_X9_readLine_J82 Λ d p0 v1 (1 : Int32) y0
def f_X9_readLine_J56 (Λ : List Ly) (d : Dt) (p0 : Nat) (v1 : Int32) (y0 : Int32) (y1 : Nat) : Option Dt := if clsAt Λ y1 = some 9 then (Option.bind (f_X9_needs Λ d y1 y0 (5 : Int32)) fun z8 => if v1 < (4 : Int32) then (f_X9_readLine_J77 Λ z8 p0 v1 p0) else (if clsAt Λ p0 = some 9 then (if (((z8.1 p0 4) >>> (v1 &&& 31)) &&& (1 : Int32)) = 0 then (f_X9_readLine_J77 Λ z8 p0 v1 p0) else (f_X9_readLine_J82 Λ z8 p0 v1 (0 : Int32) p0)) else none)) else none
def f_X9_readLine_J51 (Λ : List Ly) (d : Dt) (p0 : Nat) (v1 : Int32) (y0 : Nat) : Option Dt := f_X9_readLine_J56 Λ d p0 v1 (1 : Int32) y0
def f_X9_readLine_J30 (Λ : List Ly) (d : Dt) (p0 : Nat) (v1 : Int32) (y0 : Int32) (y1 : Nat) : Option Dt := if clsAt Λ y1 = some 9 then (Option.bind (f_X9_needs Λ d y1 y0 (2 : Int32)) fun z5 => if (4 : Int32) ≤ v1 then (f_X9_readLine_J51 Λ z5 p0 v1 p0) else (Option.bind (rf Λ p0 9 3) fun q28 => if okA Λ q28 1 (37 : Int32) = true then (if (5 : Int32) ≤ (z5.1 q28 ((37 : Int32)).toNatClampNeg) then (f_X9_readLine_J56 Λ z5 p0 v1 (0 : Int32) p0) else (f_X9_readLine_J51 Λ z5 p0 v1 p0)) else none)) else none
def f_X9_readLine_J17 (Λ : List Ly) (d : Dt) (p0 : Nat) (y0 : Int32) : Option Dt := if y0 = (-4 : Int32) then (f_X9_readLine_J30 Λ d p0 y0 (0 : Int32) p0) else (f_X9_readLine_J30 Λ d p0 y0 (1 : Int32) p0)
def f_X9_readLine (Λ : List Ly) (d : Dt) (p0 : Nat) : Option Dt := if clsAt Λ p0 = some 9 then (if (d.1 p0 9) = (1 : Int32) then (Option.bind (f_X9_lineNow Λ d p0) fun z31 => f_X9_readLine_J17 Λ d p0 z31) else (f_X9_readLine_J17 Λ d p0 (-4 : Int32))) else none
set_option maxHeartbeats 4000000 in
set_option maxRecDepth 100000 in
theorem w_X9_readLine_J130 {p : Program} {l : Launch} {e : Env} {s : State} {m : MethodId} {args : Array Value} {below : List Frame} {meth : Method} {c : Code} {Γ : Cx} {Λ : List Ly} {z : Dt} {d : Dt} (C0 : Ct Γ p s m args c cX9_readLine 2 "SeasonBoundModel") (hr : meth.sig.returnType = none) (hlocks : meth.locks = false) (p0 : Nat)
    (hf : f_X9_readLine_J130 Λ d p0 = some z) (H : Heap) (locs : List Loc) (ls : Array Slot) (hH : Hs Γ Λ d s H locs) (hl : lv_has ls 2 [(0, .ref (ad Γ.2.2.1 p0))]) : W p l e { frames := 4, cells := 0, slots := 0, locals := 94 } s m args below meth c H locs 0 0 (MQ below (QN Γ Λ z none) args s 0 0 (AP Γ)) (F0 m 130 ls []) := by
  obtain ⟨hx, hb, hml, hown, hts, hK⟩ := id C0
  unfold f_X9_readLine_J130 at hf
  refine lv_aload_n hx hb dX9_readLine_130 rfl (lv_at hl 0 rfl) ?_
  obtain ⟨g17, hf⟩ := gd hf
  refine r_geti C0 hH fl_X9_63 g17 rfl dX9_readLine_131 ?_
  refine lv_if_ne (tgt := 155) hx hb dX9_readLine_134 (by decide) (fun c18 => ?_) (fun c18 => ?_)
  · replace hf := ie hf c18
    refine lv_aload_n hx hb dX9_readLine_155 rfl (lv_at hl 0 rfl) ?_
    obtain ⟨z19, h19, hf⟩ := ob hf
    refine r_callVv (rest := []) C0 hH (c_X9_reads Γ l Λ d p0 z19 h19) cv_X9_113 g17 (by decide) rfl hl.1 rfl (Nat.le_of_ble_eq_true rfl) dX9_readLine_156 (by decide) (fun H locs hH => ?_)
    obtain rfl := Option.some.inj hf
    exact r_vret C0 hr hlocks hH dX9_readLine_159
  · replace hf := it hf c18
    refine lv_aload_n hx hb dX9_readLine_137 rfl (lv_at hl 0 rfl) ?_
    refine lv_aload_n hx hb dX9_readLine_138 rfl (lv_at hl 0 rfl) ?_
    refine r_geti C0 hH fl_X9_91 g17 rfl dX9_readLine_139 ?_
    refine lv_iconst (v := (3 : Int32)) hx hb dX9_readLine_142 (by decide) ?_
    refine lv_icmp_ne (tgt := 150) hx hb dX9_readLine_143 (by decide) (fun c20 => ?_) (fun c20 => ?_)
    · replace hf := ie hf c20
      refine lv_iconst (v := (0 : Int32)) hx hb dX9_readLine_150 (by decide) ?_
      refine lv_iconst (v := (2 : Int32)) hx hb dX9_readLine_151 (by decide) ?_
      obtain ⟨z21, h21, hf⟩ := ob hf
      refine r_callVv (rest := []) C0 hH (c_X9_needs Γ l Λ d p0 (0 : Int32) (2 : Int32) z21 h21) cv_X9_105 g17 (by decide) rfl hl.1 rfl (Nat.le_of_ble_eq_true rfl) dX9_readLine_152 (by decide) (fun H locs hH => ?_)
      refine lv_aload_n hx hb dX9_readLine_155 rfl (lv_at hl 0 rfl) ?_
      obtain ⟨z22, h22, hf⟩ := ob hf
      refine r_callVv (rest := []) C0 hH (c_X9_reads Γ l Λ z21 p0 z22 h22) cv_X9_113 g17 (by decide) rfl hl.1 rfl (Nat.le_of_ble_eq_true rfl) dX9_readLine_156 (by decide) (fun H locs hH => ?_)
      obtain rfl := Option.some.inj hf
      exact r_vret C0 hr hlocks hH dX9_readLine_159
    · replace hf := it hf c20
      refine lv_iconst (v := (1 : Int32)) hx hb dX9_readLine_146 (by decide) ?_
      refine lv_goto (tgt := 151) hx hb dX9_readLine_147 (by decide) ?_
      refine lv_iconst (v := (2 : Int32)) hx hb dX9_readLine_151 (by decide) ?_
      obtain ⟨z23, h23, hf⟩ := ob hf
      refine r_callVv (rest := []) C0 hH (c_X9_needs Γ l Λ d p0 (1 : Int32) (2 : Int32) z23 h23) cv_X9_105 g17 (by decide) rfl hl.1 rfl (Nat.le_of_ble_eq_true rfl) dX9_readLine_152 (by decide) (fun H locs hH => ?_)
      refine lv_aload_n hx hb dX9_readLine_155 rfl (lv_at hl 0 rfl) ?_
      obtain ⟨z24, h24, hf⟩ := ob hf
      refine r_callVv (rest := []) C0 hH (c_X9_reads Γ l Λ z23 p0 z24 h24) cv_X9_113 g17 (by decide) rfl hl.1 rfl (Nat.le_of_ble_eq_true rfl) dX9_readLine_156 (by decide) (fun H locs hH => ?_)
      obtain rfl := Option.some.inj hf
      exact r_vret C0 hr hlocks hH dX9_readLine_159
set_option maxHeartbeats 4000000 in
set_option maxRecDepth 100000 in
theorem w_X9_readLine_J82 {p : Program} {l : Launch} {e : Env} {s : State} {m : MethodId} {args : Array Value} {below : List Frame} {meth : Method} {c : Code} {Γ : Cx} {Λ : List Ly} {z : Dt} {d : Dt} (C0 : Ct Γ p s m args c cX9_readLine 2 "SeasonBoundModel") (hr : meth.sig.returnType = none) (hlocks : meth.locks = false) (p0 : Nat) (v1 : Int32) (y0 : Int32) (y1 : Nat)
    (hf : f_X9_readLine_J82 Λ d p0 v1 y0 y1 = some z) (H : Heap) (locs : List Loc) (ls : Array Slot) (hH : Hs Γ Λ d s H locs) (hl : lv_has ls 2 [(0, .ref (ad Γ.2.2.1 p0)), (1, .int v1)]) : W p l e { frames := 4, cells := 0, slots := 0, locals := 94 } s m args below meth c H locs 0 0 (MQ below (QN Γ Λ z none) args s 0 0 (AP Γ)) (F0 m 82 ls [.int y0, .ref (ad Γ.2.2.1 y1)]) := by
  obtain ⟨hx, hb, hml, hown, hts, hK⟩ := id C0
  unfold f_X9_readLine_J82 at hf
  refine lv_iconst (v := (4 : Int32)) hx hb dX9_readLine_82 (by decide) ?_
  obtain ⟨g10, hf⟩ := gd hf
  obtain ⟨z11, h11, hf⟩ := ob hf
  refine r_callVv (rest := []) C0 hH (c_X9_needs Γ l Λ d y1 y0 (4 : Int32) z11 h11) cv_X9_105 g10 (by decide) rfl hl.1 rfl (Nat.le_of_ble_eq_true rfl) dX9_readLine_83 (by decide) (fun H locs hH => ?_)
  refine lv_aload_n hx hb dX9_readLine_86 rfl (lv_at hl 0 rfl) ?_
  obtain ⟨g12, hf⟩ := gd hf
  obtain ⟨z13, h13, hf⟩ := ob hf
  refine r_callVv (rest := []) C0 hH (c_X9_reads Γ l Λ z11 p0 z13 h13) cv_X9_113 g12 (by decide) rfl hl.1 rfl (Nat.le_of_ble_eq_true rfl) dX9_readLine_87 (by decide) (fun H locs hH => ?_)
  refine lv_aload_n hx hb dX9_readLine_90 rfl (lv_at hl 0 rfl) ?_
  refine r_geti C0 hH fl_X9_63 g12 rfl dX9_readLine_91 ?_
  refine lv_if_le (tgt := 98) hx hb dX9_readLine_94 (by decide) (fun c14 => ?_) (fun c14 => ?_)
  · replace hf := it hf c14
    refine lv_aload_n hx hb dX9_readLine_98 rfl (lv_at hl 0 rfl) ?_
    refine lv_dup hx hb dX9_readLine_99 rfl ?_
    refine r_geti C0 hH fl_X9_50 g12 rfl dX9_readLine_100 ?_
    refine lv_iconst (v := (1 : Int32)) hx hb dX9_readLine_103 (by decide) ?_
    refine lv_iload_n hx hb dX9_readLine_104 rfl (lv_at hl 1 rfl) ?_
    refine lv_ishl hx hb dX9_readLine_105 ?_
    refine lv_ior hx hb dX9_readLine_106 ?_
    refine r_puti C0 hH fw_X9_50 g12 rfl dX9_readLine_107 (fun H locs hH => ?_)
    refine lv_iload_n hx hb dX9_readLine_110 rfl (lv_at hl 1 rfl) ?_
    refine lv_iconst (v := (4 : Int32)) hx hb dX9_readLine_111 (by decide) ?_
    refine lv_icmp_ge (tgt := 123) hx hb dX9_readLine_112 (by decide) (fun c15 => ?_) (fun c15 => ?_)
    · replace hf := it hf c15
      refine lv_aload_n hx hb dX9_readLine_123 rfl (lv_at hl 0 rfl) ?_
      refine lv_iload_n hx hb dX9_readLine_124 rfl (lv_at hl 1 rfl) ?_
      refine lv_iconst (v := (4 : Int32)) hx hb dX9_readLine_125 (by decide) ?_
      refine lv_isub hx hb dX9_readLine_126 ?_
      obtain ⟨z16, h16, hf⟩ := ob hf
      refine r_callVv (rest := []) C0 hH (c_X9_readSeason Γ l Λ (pI z13 p0 4 ((z13.1 p0 4) ||| ((1 : Int32) <<< (v1 &&& 31)))) p0 (v1 - (4 : Int32)) z16 h16) cv_X9_126 g12 (by decide) rfl hl.1 rfl (Nat.le_of_ble_eq_true rfl) dX9_readLine_127 (by decide) (fun H locs hH => ?_)
      exact w_X9_readLine_J130 C0 hr hlocks p0 hf _ _ _ hH (lv_sub hl [0] rfl)
    · replace hf := ie hf c15
      refine lv_aload_n hx hb dX9_readLine_115 rfl (lv_at hl 0 rfl) ?_
      refine lv_iload_n hx hb dX9_readLine_116 rfl (lv_at hl 1 rfl) ?_
      obtain ⟨z25, h25, hf⟩ := ob hf
      refine r_callVv (rest := []) C0 hH (c_X9_readChild Γ l Λ (pI z13 p0 4 ((z13.1 p0 4) ||| ((1 : Int32) <<< (v1 &&& 31)))) p0 v1 z25 h25) cv_X9_122 g12 (by decide) rfl hl.1 rfl (Nat.le_of_ble_eq_true rfl) dX9_readLine_117 (by decide) (fun H locs hH => ?_)
      refine lv_goto (tgt := 130) hx hb dX9_readLine_120 (by decide) ?_
      exact w_X9_readLine_J130 C0 hr hlocks p0 hf _ _ _ hH (lv_sub hl [0] rfl)
  · replace hf := ie hf c14
    obtain rfl := Option.some.inj hf
    exact r_vret C0 hr hlocks hH dX9_readLine_97
set_option maxHeartbeats 4000000 in
set_option maxRecDepth 100000 in
theorem w_X9_readLine_J77 {p : Program} {l : Launch} {e : Env} {s : State} {m : MethodId} {args : Array Value} {below : List Frame} {meth : Method} {c : Code} {Γ : Cx} {Λ : List Ly} {z : Dt} {d : Dt} (C0 : Ct Γ p s m args c cX9_readLine 2 "SeasonBoundModel") (hr : meth.sig.returnType = none) (hlocks : meth.locks = false) (p0 : Nat) (v1 : Int32) (y0 : Nat)
    (hf : f_X9_readLine_J77 Λ d p0 v1 y0 = some z) (H : Heap) (locs : List Loc) (ls : Array Slot) (hH : Hs Γ Λ d s H locs) (hl : lv_has ls 2 [(0, .ref (ad Γ.2.2.1 p0)), (1, .int v1)]) : W p l e { frames := 4, cells := 0, slots := 0, locals := 94 } s m args below meth c H locs 0 0 (MQ below (QN Γ Λ z none) args s 0 0 (AP Γ)) (F0 m 77 ls [.ref (ad Γ.2.2.1 y0)]) := by
  obtain ⟨hx, hb, hml, hown, hts, hK⟩ := id C0
  unfold f_X9_readLine_J77 at hf
  refine lv_iconst (v := (1 : Int32)) hx hb dX9_readLine_77 (by decide) ?_
  refine lv_goto (tgt := 82) hx hb dX9_readLine_78 (by decide) ?_
  exact w_X9_readLine_J82 C0 hr hlocks p0 v1 (1 : Int32) y0 hf _ _ _ hH (lv_sub hl [0, 1] rfl)
set_option maxHeartbeats 4000000 in
set_option maxRecDepth 100000 in
theorem w_X9_readLine_J56 {p : Program} {l : Launch} {e : Env} {s : State} {m : MethodId} {args : Array Value} {below : List Frame} {meth : Method} {c : Code} {Γ : Cx} {Λ : List Ly} {z : Dt} {d : Dt} (C0 : Ct Γ p s m args c cX9_readLine 2 "SeasonBoundModel") (hr : meth.sig.returnType = none) (hlocks : meth.locks = false) (p0 : Nat) (v1 : Int32) (y0 : Int32) (y1 : Nat)
    (hf : f_X9_readLine_J56 Λ d p0 v1 y0 y1 = some z) (H : Heap) (locs : List Loc) (ls : Array Slot) (hH : Hs Γ Λ d s H locs) (hl : lv_has ls 2 [(0, .ref (ad Γ.2.2.1 p0)), (1, .int v1)]) : W p l e { frames := 4, cells := 0, slots := 0, locals := 94 } s m args below meth c H locs 0 0 (MQ below (QN Γ Λ z none) args s 0 0 (AP Γ)) (F0 m 56 ls [.int y0, .ref (ad Γ.2.2.1 y1)]) := by
  obtain ⟨hx, hb, hml, hown, hts, hK⟩ := id C0
  unfold f_X9_readLine_J56 at hf
  refine lv_iconst (v := (5 : Int32)) hx hb dX9_readLine_56 (by decide) ?_
  obtain ⟨g7, hf⟩ := gd hf
  obtain ⟨z8, h8, hf⟩ := ob hf
  refine r_callVv (rest := []) C0 hH (c_X9_needs Γ l Λ d y1 y0 (5 : Int32) z8 h8) cv_X9_105 g7 (by decide) rfl hl.1 rfl (Nat.le_of_ble_eq_true rfl) dX9_readLine_57 (by decide) (fun H locs hH => ?_)
  refine lv_aload_n hx hb dX9_readLine_60 rfl (lv_at hl 0 rfl) ?_
  refine lv_iload_n hx hb dX9_readLine_61 rfl (lv_at hl 1 rfl) ?_
  refine lv_iconst (v := (4 : Int32)) hx hb dX9_readLine_62 (by decide) ?_
  refine lv_icmp_lt (tgt := 77) hx hb dX9_readLine_63 (by decide) (fun c9 => ?_) (fun c9 => ?_)
  · replace hf := it hf c9
    exact w_X9_readLine_J77 C0 hr hlocks p0 v1 p0 hf _ _ _ hH (lv_sub hl [0, 1] rfl)
  · replace hf := ie hf c9
    refine lv_aload_n hx hb dX9_readLine_66 rfl (lv_at hl 0 rfl) ?_
    obtain ⟨g26, hf⟩ := gd hf
    refine r_geti C0 hH fl_X9_50 g26 rfl dX9_readLine_67 ?_
    refine lv_iload_n hx hb dX9_readLine_70 rfl (lv_at hl 1 rfl) ?_
    refine lv_ishr hx hb dX9_readLine_71 ?_
    refine lv_iconst (v := (1 : Int32)) hx hb dX9_readLine_72 (by decide) ?_
    refine lv_iand hx hb dX9_readLine_73 ?_
    refine lv_if_ne (tgt := 81) hx hb dX9_readLine_74 (by decide) (fun c27 => ?_) (fun c27 => ?_)
    · replace hf := ie hf c27
      refine lv_iconst (v := (0 : Int32)) hx hb dX9_readLine_81 (by decide) ?_
      exact w_X9_readLine_J82 C0 hr hlocks p0 v1 (0 : Int32) p0 hf _ _ _ hH (lv_sub hl [0, 1] rfl)
    · replace hf := it hf c27
      exact w_X9_readLine_J77 C0 hr hlocks p0 v1 p0 hf _ _ _ hH (lv_sub hl [0, 1] rfl)
set_option maxHeartbeats 4000000 in
set_option maxRecDepth 100000 in
theorem w_X9_readLine_J51 {p : Program} {l : Launch} {e : Env} {s : State} {m : MethodId} {args : Array Value} {below : List Frame} {meth : Method} {c : Code} {Γ : Cx} {Λ : List Ly} {z : Dt} {d : Dt} (C0 : Ct Γ p s m args c cX9_readLine 2 "SeasonBoundModel") (hr : meth.sig.returnType = none) (hlocks : meth.locks = false) (p0 : Nat) (v1 : Int32) (y0 : Nat)
    (hf : f_X9_readLine_J51 Λ d p0 v1 y0 = some z) (H : Heap) (locs : List Loc) (ls : Array Slot) (hH : Hs Γ Λ d s H locs) (hl : lv_has ls 2 [(0, .ref (ad Γ.2.2.1 p0)), (1, .int v1)]) : W p l e { frames := 4, cells := 0, slots := 0, locals := 94 } s m args below meth c H locs 0 0 (MQ below (QN Γ Λ z none) args s 0 0 (AP Γ)) (F0 m 51 ls [.ref (ad Γ.2.2.1 y0)]) := by
  obtain ⟨hx, hb, hml, hown, hts, hK⟩ := id C0
  unfold f_X9_readLine_J51 at hf
  refine lv_iconst (v := (1 : Int32)) hx hb dX9_readLine_51 (by decide) ?_
  refine lv_goto (tgt := 56) hx hb dX9_readLine_52 (by decide) ?_
  exact w_X9_readLine_J56 C0 hr hlocks p0 v1 (1 : Int32) y0 hf _ _ _ hH (lv_sub hl [0, 1] rfl)
set_option maxHeartbeats 4000000 in
set_option maxRecDepth 100000 in
theorem w_X9_readLine_J30 {p : Program} {l : Launch} {e : Env} {s : State} {m : MethodId} {args : Array Value} {below : List Frame} {meth : Method} {c : Code} {Γ : Cx} {Λ : List Ly} {z : Dt} {d : Dt} (C0 : Ct Γ p s m args c cX9_readLine 2 "SeasonBoundModel") (hr : meth.sig.returnType = none) (hlocks : meth.locks = false) (p0 : Nat) (v1 : Int32) (y0 : Int32) (y1 : Nat)
    (hf : f_X9_readLine_J30 Λ d p0 v1 y0 y1 = some z) (H : Heap) (locs : List Loc) (ls : Array Slot) (hH : Hs Γ Λ d s H locs) (hl : lv_has ls 2 [(0, .ref (ad Γ.2.2.1 p0)), (1, .int v1)]) : W p l e { frames := 4, cells := 0, slots := 0, locals := 94 } s m args below meth c H locs 0 0 (MQ below (QN Γ Λ z none) args s 0 0 (AP Γ)) (F0 m 30 ls [.int y0, .ref (ad Γ.2.2.1 y1)]) := by
  obtain ⟨hx, hb, hml, hown, hts, hK⟩ := id C0
  unfold f_X9_readLine_J30 at hf
  refine lv_iconst (v := (2 : Int32)) hx hb dX9_readLine_30 (by decide) ?_
  obtain ⟨g4, hf⟩ := gd hf
  obtain ⟨z5, h5, hf⟩ := ob hf
  refine r_callVv (rest := []) C0 hH (c_X9_needs Γ l Λ d y1 y0 (2 : Int32) z5 h5) cv_X9_105 g4 (by decide) rfl hl.1 rfl (Nat.le_of_ble_eq_true rfl) dX9_readLine_31 (by decide) (fun H locs hH => ?_)
  refine lv_aload_n hx hb dX9_readLine_34 rfl (lv_at hl 0 rfl) ?_
  refine lv_iload_n hx hb dX9_readLine_35 rfl (lv_at hl 1 rfl) ?_
  refine lv_iconst (v := (4 : Int32)) hx hb dX9_readLine_36 (by decide) ?_
  refine lv_icmp_ge (tgt := 51) hx hb dX9_readLine_37 (by decide) (fun c6 => ?_) (fun c6 => ?_)
  · replace hf := it hf c6
    exact w_X9_readLine_J51 C0 hr hlocks p0 v1 p0 hf _ _ _ hH (lv_sub hl [0, 1] rfl)
  · replace hf := ie hf c6
    refine lv_aload_n hx hb dX9_readLine_40 rfl (lv_at hl 0 rfl) ?_
    obtain ⟨q28, g28, hf⟩ := ob hf
    refine r_getr C0 hH fl_X9_20 g28 dX9_readLine_41 ?_
    refine lv_bipush (v := (37 : Int32)) hx hb dX9_readLine_44 (by decide) ?_
    obtain ⟨g29, hf⟩ := gd hf
    refine r_iald C0 hH g29 dX9_readLine_46 ?_
    refine lv_iconst (v := (5 : Int32)) hx hb dX9_readLine_47 (by decide) ?_
    refine lv_icmp_ge (tgt := 55) hx hb dX9_readLine_48 (by decide) (fun c30 => ?_) (fun c30 => ?_)
    · replace hf := it hf c30
      refine lv_iconst (v := (0 : Int32)) hx hb dX9_readLine_55 (by decide) ?_
      exact w_X9_readLine_J56 C0 hr hlocks p0 v1 (0 : Int32) p0 hf _ _ _ hH (lv_sub hl [0, 1] rfl)
    · replace hf := ie hf c30
      exact w_X9_readLine_J51 C0 hr hlocks p0 v1 p0 hf _ _ _ hH (lv_sub hl [0, 1] rfl)
set_option maxHeartbeats 4000000 in
set_option maxRecDepth 100000 in
theorem w_X9_readLine_J17 {p : Program} {l : Launch} {e : Env} {s : State} {m : MethodId} {args : Array Value} {below : List Frame} {meth : Method} {c : Code} {Γ : Cx} {Λ : List Ly} {z : Dt} {d : Dt} (C0 : Ct Γ p s m args c cX9_readLine 2 "SeasonBoundModel") (hr : meth.sig.returnType = none) (hlocks : meth.locks = false) (p0 : Nat) (y0 : Int32)
    (hf : f_X9_readLine_J17 Λ d p0 y0 = some z) (H : Heap) (locs : List Loc) (ls : Array Slot) (hH : Hs Γ Λ d s H locs) (hl : lv_has ls 2 [(0, .ref (ad Γ.2.2.1 p0))]) : W p l e { frames := 4, cells := 0, slots := 0, locals := 94 } s m args below meth c H locs 0 0 (MQ below (QN Γ Λ z none) args s 0 0 (AP Γ)) (F0 m 17 ls [.int y0]) := by
  obtain ⟨hx, hb, hml, hown, hts, hK⟩ := id C0
  unfold f_X9_readLine_J17 at hf
  refine lv_istore_n (lv' := [(1, .int y0), (0, .ref (ad Γ.2.2.1 p0))]) hx hb dX9_readLine_17 rfl hl (by decide) rfl (fun ls hl => ?_)
  refine lv_aload_n hx hb dX9_readLine_18 rfl (lv_at hl 1 rfl) ?_
  refine lv_iload_n hx hb dX9_readLine_19 rfl (lv_at hl 0 rfl) ?_
  refine lv_bipush (v := (-4 : Int32)) hx hb dX9_readLine_20 (by decide) ?_
  refine lv_icmp_eq (tgt := 29) hx hb dX9_readLine_22 (by decide) (fun c3 => ?_) (fun c3 => ?_)
  · replace hf := it hf c3
    refine lv_iconst (v := (0 : Int32)) hx hb dX9_readLine_29 (by decide) ?_
    exact w_X9_readLine_J30 C0 hr hlocks p0 y0 (0 : Int32) p0 hf _ _ _ hH (lv_sub hl [1, 0] rfl)
  · replace hf := ie hf c3
    refine lv_iconst (v := (1 : Int32)) hx hb dX9_readLine_25 (by decide) ?_
    refine lv_goto (tgt := 30) hx hb dX9_readLine_26 (by decide) ?_
    exact w_X9_readLine_J30 C0 hr hlocks p0 y0 (1 : Int32) p0 hf _ _ _ hH (lv_sub hl [1, 0] rfl)
set_option maxHeartbeats 4000000 in
set_option maxRecDepth 100000 in
theorem c_X9_readLine (Γ : Cx) (l : Launch) (Λ : List Ly) (d : Dt) (p0 : Nat) (z : Dt) (hf : f_X9_readLine Λ d p0 = some z) : Cn Γ l yX9_readLine cX9_readLine 2 none 4 94 [.ref (ad Γ.2.2.1 p0)] Λ d none z := by
  refine Cn.of (own := "SeasonBoundModel") (by decide +kernel) rfl (Nat.le_of_ble_eq_true rfl) ?_
  intro p e s m below meth c C0 hr hlocks hH ls hl
  have hl : lv_has ls 2 [(0, .ref (ad Γ.2.2.1 p0))] := hl
  obtain ⟨hx, hb, hml, hown, hts, hK⟩ := id C0
  unfold f_X9_readLine at hf
  refine lv_aload_n hx hb dX9_readLine_0 rfl (lv_at hl 0 rfl) ?_
  obtain ⟨g1, hf⟩ := gd hf
  refine r_geti C0 hH fl_X9_91 g1 rfl dX9_readLine_1 ?_
  refine lv_iconst (v := (1 : Int32)) hx hb dX9_readLine_4 (by decide) ?_
  refine lv_icmp_ne (tgt := 15) hx hb dX9_readLine_5 (by decide) (fun c2 => ?_) (fun c2 => ?_)
  · replace hf := ie hf c2
    refine lv_bipush (v := (-4 : Int32)) hx hb dX9_readLine_15 (by decide) ?_
    exact w_X9_readLine_J17 C0 hr hlocks p0 (-4 : Int32) hf _ _ _ hH (lv_sub hl [0] rfl)
  · replace hf := it hf c2
    refine lv_aload_n hx hb dX9_readLine_8 rfl (lv_at hl 0 rfl) ?_
    obtain ⟨z31, h31, hf⟩ := ob hf
    refine r_callVi (rest := []) C0 hH (c_X9_lineNow Γ l Λ d p0 z31 h31) cv_X9_119 g1 (by decide) rfl hl.1 rfl (Nat.le_of_ble_eq_true rfl) dX9_readLine_9 (by decide) (fun H locs hH => ?_)
    refine lv_goto (tgt := 17) hx hb dX9_readLine_12 (by decide) ?_
    exact w_X9_readLine_J17 C0 hr hlocks p0 z31 hf _ _ _ hH (lv_sub hl [0] rfl)
theorem dX9_text_0 : decode cX9_text 0 = .ok (.iconst 0, 1) := by decide +kernel
theorem dX9_text_1 : decode cX9_text 1 = .ok (.istore_n 1, 1) := by decide +kernel
theorem dX9_text_2 : decode cX9_text 2 = .ok (.aload_n 0, 1) := by decide +kernel
theorem dX9_text_3 : decode cX9_text 3 = .ok (.iconst 0, 1) := by decide +kernel
theorem dX9_text_4 : decode cX9_text 4 = .ok (.putfield 63, 3) := by decide +kernel
theorem dX9_text_7 : decode cX9_text 7 = .ok (.aload_n 0, 1) := by decide +kernel
theorem dX9_text_8 : decode cX9_text 8 = .ok (.iconst 0, 1) := by decide +kernel
theorem dX9_text_9 : decode cX9_text 9 = .ok (.putfield 72, 3) := by decide +kernel
theorem dX9_text_12 : decode cX9_text 12 = .ok (.aload_n 0, 1) := by decide +kernel
theorem dX9_text_13 : decode cX9_text 13 = .ok (.invokevirtual 44, 3) := by decide +kernel
theorem dX9_text_16 : decode cX9_text 16 = .ok (.aload_n 0, 1) := by decide +kernel
theorem dX9_text_17 : decode cX9_text 17 = .ok (.invokevirtual 113, 3) := by decide +kernel
theorem dX9_text_20 : decode cX9_text 20 = .ok (.aload_n 0, 1) := by decide +kernel
theorem dX9_text_21 : decode cX9_text 21 = .ok (.getfield 63, 3) := by decide +kernel
theorem dX9_text_24 : decode cX9_text 24 = .ok (.ifCond .ne 20, 3) := by decide +kernel
theorem dX9_text_27 : decode cX9_text 27 = .ok (.aload_n 0, 1) := by decide +kernel
theorem dX9_text_28 : decode cX9_text 28 = .ok (.getfield 91, 3) := by decide +kernel
theorem dX9_text_31 : decode cX9_text 31 = .ok (.ifCond .eq 13, 3) := by decide +kernel
theorem dX9_text_34 : decode cX9_text 34 = .ok (.aload_n 0, 1) := by decide +kernel
theorem dX9_text_35 : decode cX9_text 35 = .ok (.invokevirtual 129, 3) := by decide +kernel
theorem dX9_text_38 : decode cX9_text 38 = .ok (.iinc 1 1, 3) := by decide +kernel
theorem dX9_text_41 : decode cX9_text 41 = .ok (.goto (-21), 3) := by decide +kernel
theorem dX9_text_44 : decode cX9_text 44 = .ok (.aload_n 0, 1) := by decide +kernel
theorem dX9_text_45 : decode cX9_text 45 = .ok (.iconst 0, 1) := by decide +kernel
theorem dX9_text_46 : decode cX9_text 46 = .ok (.putfield 60, 3) := by decide +kernel
theorem dX9_text_49 : decode cX9_text 49 = .ok (.aload_n 0, 1) := by decide +kernel
theorem dX9_text_50 : decode cX9_text 50 = .ok (.getfield 63, 3) := by decide +kernel
theorem dX9_text_53 : decode cX9_text 53 = .ok (.ifCond .le 11, 3) := by decide +kernel
theorem dX9_text_56 : decode cX9_text 56 = .ok (.bipush (-10), 2) := by decide +kernel
theorem dX9_text_58 : decode cX9_text 58 = .ok (.aload_n 0, 1) := by decide +kernel
theorem dX9_text_59 : decode cX9_text 59 = .ok (.getfield 69, 3) := by decide +kernel
theorem dX9_text_62 : decode cX9_text 62 = .ok (.isub, 1) := by decide +kernel
theorem dX9_text_63 : decode cX9_text 63 = .ok (.ireturn, 1) := by decide +kernel
theorem dX9_text_64 : decode cX9_text 64 = .ok (.aload_n 0, 1) := by decide +kernel
theorem dX9_text_65 : decode cX9_text 65 = .ok (.invokevirtual 47, 3) := by decide +kernel
theorem dX9_text_68 : decode cX9_text 68 = .ok (.iload_n 1, 1) := by decide +kernel
theorem dX9_text_69 : decode cX9_text 69 = .ok (.ireturn, 1) := by decide +kernel
def f_X9_text_J44 (Λ : List Ly) (d : Dt) (p0 : Nat) (v1 : Int32) : Option (Int32 × Dt) := if clsAt Λ p0 = some 9 then (if ((pI d p0 6 (0 : Int32)).1 p0 11) ≤ 0 then (Option.bind (f_X9_keepDraft Λ (pI d p0 6 (0 : Int32)) p0) fun z8 => some (v1, z8)) else (some (((-10 : Int32) - ((pI d p0 6 (0 : Int32)).1 p0 12)), (pI d p0 6 (0 : Int32))))) else none
def f_X9_text_L20 (Λ : List Ly) (p0 : Nat) : Nat → Int32 → Dt → Option (Int32 × Dt)
  | 0, _, _ => none
  | n + 1, v1, d => if clsAt Λ p0 = some 9 then (if (d.1 p0 11) = 0 then (if (d.1 p0 9) = 0 then (f_X9_text_J44 Λ d p0 v1) else (Option.bind (f_X9_readLine Λ d p0) fun z10 => f_X9_text_L20 Λ p0 n (v1 + (1 : Int32)) z10)) else (f_X9_text_J44 Λ d p0 v1)) else none
def f_X9_text (Λ : List Ly) (d : Dt) (p0 : Nat) : Option (Int32 × Dt) := if clsAt Λ p0 = some 9 then (Option.bind (f_X9_firstDraft Λ (pI (pI d p0 11 (0 : Int32)) p0 7 (0 : Int32)) p0) fun z2 => Option.bind (f_X9_reads Λ z2 p0) fun z3 => f_X9_text_L20 Λ p0 FU (0 : Int32) z3) else none
set_option maxHeartbeats 4000000 in
set_option maxRecDepth 100000 in
theorem w_X9_text_J44 {p : Program} {l : Launch} {e : Env} {s : State} {m : MethodId} {args : Array Value} {below : List Frame} {meth : Method} {c : Code} {Γ : Cx} {Λ : List Ly} {z : Int32 × Dt} {d : Dt} (C0 : Ct Γ p s m args c cX9_text 2 "SeasonBoundModel") (hr : meth.sig.returnType = (some FieldType.int)) (hlocks : meth.locks = false) (p0 : Nat) (v1 : Int32)
    (hf : f_X9_text_J44 Λ d p0 v1 = some z) (H : Heap) (locs : List Loc) (ls : Array Slot) (hH : Hs Γ Λ d s H locs) (hl : lv_has ls 2 [(0, .ref (ad Γ.2.2.1 p0)), (1, .int v1)]) : W p l e { frames := 5, cells := 0, slots := 0, locals := 115 } s m args below meth c H locs 0 0 (MQ below (QN Γ Λ z.2 (some (.int z.1))) args s 0 0 (AP Γ)) (F0 m 44 ls []) := by
  obtain ⟨hx, hb, hml, hown, hts, hK⟩ := id C0
  unfold f_X9_text_J44 at hf
  refine lv_aload_n hx hb dX9_text_44 rfl (lv_at hl 0 rfl) ?_
  refine lv_iconst (v := (0 : Int32)) hx hb dX9_text_45 (by decide) ?_
  obtain ⟨g6, hf⟩ := gd hf
  refine r_puti C0 hH fw_X9_60 g6 rfl dX9_text_46 (fun H locs hH => ?_)
  refine lv_aload_n hx hb dX9_text_49 rfl (lv_at hl 0 rfl) ?_
  refine r_geti C0 hH fl_X9_63 g6 rfl dX9_text_50 ?_
  refine lv_if_le (tgt := 64) hx hb dX9_text_53 (by decide) (fun c7 => ?_) (fun c7 => ?_)
  · replace hf := it hf c7
    refine lv_aload_n hx hb dX9_text_64 rfl (lv_at hl 0 rfl) ?_
    obtain ⟨z8, h8, hf⟩ := ob hf
    refine r_callVv (rest := []) C0 hH (c_X9_keepDraft Γ l Λ (pI d p0 6 (0 : Int32)) p0 z8 h8) cv_X9_47 g6 (by decide) rfl hl.1 rfl (Nat.le_of_ble_eq_true rfl) dX9_text_65 (by decide) (fun H locs hH => ?_)
    refine lv_iload_n hx hb dX9_text_68 rfl (lv_at hl 1 rfl) ?_
    obtain rfl := Option.some.inj hf
    exact r_iret (d' := d) C0 hr hlocks hH rfl dX9_text_69
  · replace hf := ie hf c7
    refine lv_bipush (v := (-10 : Int32)) hx hb dX9_text_56 (by decide) ?_
    refine lv_aload_n hx hb dX9_text_58 rfl (lv_at hl 0 rfl) ?_
    refine r_geti C0 hH fl_X9_69 g6 rfl dX9_text_59 ?_
    refine lv_isub hx hb dX9_text_62 ?_
    obtain rfl := Option.some.inj hf
    exact r_iret (d' := d) C0 hr hlocks hH rfl dX9_text_63
set_option maxHeartbeats 4000000 in
set_option maxRecDepth 100000 in
theorem w_X9_text_L20 {p : Program} {l : Launch} {e : Env} {s : State} {m : MethodId} {args : Array Value} {below : List Frame} {meth : Method} {c : Code} {Γ : Cx} {Λ : List Ly} {z : Int32 × Dt} (C0 : Ct Γ p s m args c cX9_text 2 "SeasonBoundModel") (hr : meth.sig.returnType = (some FieldType.int)) (hlocks : meth.locks = false) (p0 : Nat) :
    ∀ (n : Nat) (v1 : Int32) (d : Dt), f_X9_text_L20 Λ p0 n v1 d = some z → ∀ (H : Heap) (locs : List Loc) (ls : Array Slot), Hs Γ Λ d s H locs → lv_has ls 2 [(0, .ref (ad Γ.2.2.1 p0)), (1, .int v1)] → W p l e { frames := 5, cells := 0, slots := 0, locals := 115 } s m args below meth c H locs 0 0 (MQ below (QN Γ Λ z.2 (some (.int z.1))) args s 0 0 (AP Γ)) (F0 m 20 ls []) := by
  obtain ⟨hx, hb, hml, hown, hts, hK⟩ := id C0
  intro n
  induction n with
  | zero =>
    intro v1 d hf
    cases hf
  | succ n ih =>
    intro v1 d hf H locs ls hH hl
    unfold f_X9_text_L20 at hf
    refine lv_aload_n hx hb dX9_text_20 rfl (lv_at hl 0 rfl) ?_
    obtain ⟨g4, hf⟩ := gd hf
    refine r_geti C0 hH fl_X9_63 g4 rfl dX9_text_21 ?_
    refine lv_if_ne (tgt := 44) hx hb dX9_text_24 (by decide) (fun c5 => ?_) (fun c5 => ?_)
    · replace hf := ie hf c5
      exact w_X9_text_J44 C0 hr hlocks p0 v1 hf _ _ _ hH (lv_sub hl [0, 1] rfl)
    · replace hf := it hf c5
      refine lv_aload_n hx hb dX9_text_27 rfl (lv_at hl 0 rfl) ?_
      refine r_geti C0 hH fl_X9_91 g4 rfl dX9_text_28 ?_
      refine lv_if_eq (tgt := 44) hx hb dX9_text_31 (by decide) (fun c9 => ?_) (fun c9 => ?_)
      · replace hf := it hf c9
        exact w_X9_text_J44 C0 hr hlocks p0 v1 hf _ _ _ hH (lv_sub hl [0, 1] rfl)
      · replace hf := ie hf c9
        refine lv_aload_n hx hb dX9_text_34 rfl (lv_at hl 0 rfl) ?_
        obtain ⟨z10, h10, hf⟩ := ob hf
        refine r_callVv (rest := []) C0 hH (c_X9_readLine Γ l Λ d p0 z10 h10) cv_X9_129 g4 (by decide) rfl hl.1 rfl (Nat.le_of_ble_eq_true rfl) dX9_text_35 (by decide) (fun H locs hH => ?_)
        refine lv_iinc (v := (v1 + (1 : Int32))) (lv' := [(1, .int (v1 + (1 : Int32))), (0, .ref (ad Γ.2.2.1 p0))]) hx hb dX9_text_38 hl (k := 1) rfl (congrArg (fun w => v1 + w) (by decide)) (by decide) rfl (fun ls hl => ?_)
        refine lv_goto (tgt := 20) hx hb dX9_text_41 (by decide) ?_
        exact ih (v1 + (1 : Int32)) z10 hf _ _ _ hH (lv_sub hl [1, 0] rfl)
set_option maxHeartbeats 4000000 in
set_option maxRecDepth 100000 in
theorem c_X9_text (Γ : Cx) (l : Launch) (Λ : List Ly) (d : Dt) (p0 : Nat) (z : Int32 × Dt) (hf : f_X9_text Λ d p0 = some z) : Cn Γ l yX9_text cX9_text 2 (some FieldType.int) 5 115 [.ref (ad Γ.2.2.1 p0)] Λ d (some (.int z.1)) z.2 := by
  refine Cn.of (own := "SeasonBoundModel") (by decide +kernel) rfl (Nat.le_of_ble_eq_true rfl) ?_
  intro p e s m below meth c C0 hr hlocks hH ls hl
  have hl : lv_has ls 2 [(0, .ref (ad Γ.2.2.1 p0))] := hl
  obtain ⟨hx, hb, hml, hown, hts, hK⟩ := id C0
  unfold f_X9_text at hf
  refine lv_iconst (v := (0 : Int32)) hx hb dX9_text_0 (by decide) ?_
  refine lv_istore_n (lv' := [(1, .int (0 : Int32)), (0, .ref (ad Γ.2.2.1 p0))]) hx hb dX9_text_1 rfl hl (by decide) rfl (fun ls hl => ?_)
  refine lv_aload_n hx hb dX9_text_2 rfl (lv_at hl 1 rfl) ?_
  refine lv_iconst (v := (0 : Int32)) hx hb dX9_text_3 (by decide) ?_
  obtain ⟨g1, hf⟩ := gd hf
  refine r_puti C0 hH fw_X9_63 g1 rfl dX9_text_4 (fun H locs hH => ?_)
  refine lv_aload_n hx hb dX9_text_7 rfl (lv_at hl 1 rfl) ?_
  refine lv_iconst (v := (0 : Int32)) hx hb dX9_text_8 (by decide) ?_
  refine r_puti C0 hH fw_X9_72 g1 rfl dX9_text_9 (fun H locs hH => ?_)
  refine lv_aload_n hx hb dX9_text_12 rfl (lv_at hl 1 rfl) ?_
  obtain ⟨z2, h2, hf⟩ := ob hf
  refine r_callVv (rest := []) C0 hH (c_X9_firstDraft Γ l Λ (pI (pI d p0 11 (0 : Int32)) p0 7 (0 : Int32)) p0 z2 h2) cv_X9_44 g1 (by decide) rfl hl.1 rfl (Nat.le_of_ble_eq_true rfl) dX9_text_13 (by decide) (fun H locs hH => ?_)
  refine lv_aload_n hx hb dX9_text_16 rfl (lv_at hl 1 rfl) ?_
  obtain ⟨z3, h3, hf⟩ := ob hf
  refine r_callVv (rest := []) C0 hH (c_X9_reads Γ l Λ z2 p0 z3 h3) cv_X9_113 g1 (by decide) rfl hl.1 rfl (Nat.le_of_ble_eq_true rfl) dX9_text_17 (by decide) (fun H locs hH => ?_)
  refine w_X9_text_L20 C0 hr hlocks p0 FU (0 : Int32) z3 hf _ _ _ hH (lv_sub hl [1, 0] rfl)
theorem dX9_fault_0 : decode cX9_fault 0 = .ok (.aload_n 0, 1) := by decide +kernel
theorem dX9_fault_1 : decode cX9_fault 1 = .ok (.getfield 63, 3) := by decide +kernel
theorem dX9_fault_4 : decode cX9_fault 4 = .ok (.ireturn, 1) := by decide +kernel
def f_X9_fault (Λ : List Ly) (d : Dt) (p0 : Nat) : Option Int32 := if clsAt Λ p0 = some 9 then (some (d.1 p0 11)) else none
set_option maxHeartbeats 4000000 in
set_option maxRecDepth 100000 in
theorem c_X9_fault (Γ : Cx) (l : Launch) (Λ : List Ly) (d : Dt) (p0 : Nat) (z : Int32) (hf : f_X9_fault Λ d p0 = some z) : Cn Γ l yX9_fault cX9_fault 1 (some FieldType.int) 0 0 [.ref (ad Γ.2.2.1 p0)] Λ d (some (.int z)) d := by
  refine Cn.of (own := "SeasonBoundModel") (by decide +kernel) rfl (Nat.le_of_ble_eq_true rfl) ?_
  intro p e s m below meth c C0 hr hlocks hH ls hl
  have hl : lv_has ls 1 [(0, .ref (ad Γ.2.2.1 p0))] := hl
  obtain ⟨hx, hb, hml, hown, hts, hK⟩ := id C0
  unfold f_X9_fault at hf
  refine lv_aload_n hx hb dX9_fault_0 rfl (lv_at hl 0 rfl) ?_
  obtain ⟨g1, hf⟩ := gd hf
  refine r_geti C0 hH fl_X9_63 g1 rfl dX9_fault_1 ?_
  obtain rfl := Option.some.inj hf
  exact r_iret (d' := d) C0 hr hlocks hH rfl dX9_fault_4
theorem dX9_isChild_0 : decode cX9_isChild 0 = .ok (.iload_n 1, 1) := by decide +kernel
theorem dX9_isChild_1 : decode cX9_isChild 1 = .ok (.i2l, 1) := by decide +kernel
theorem dX9_isChild_2 : decode cX9_isChild 2 = .ok (.lconst 0, 1) := by decide +kernel
theorem dX9_isChild_3 : decode cX9_isChild 3 = .ok (.aload_n 0, 1) := by decide +kernel
theorem dX9_isChild_4 : decode cX9_isChild 4 = .ok (.getfield 7, 3) := by decide +kernel
theorem dX9_isChild_7 : decode cX9_isChild 7 = .ok (.bipush 37, 2) := by decide +kernel
theorem dX9_isChild_9 : decode cX9_isChild 9 = .ok (.iaload, 1) := by decide +kernel
theorem dX9_isChild_10 : decode cX9_isChild 10 = .ok (.iconst 1, 1) := by decide +kernel
theorem dX9_isChild_11 : decode cX9_isChild 11 = .ok (.isub, 1) := by decide +kernel
theorem dX9_isChild_12 : decode cX9_isChild 12 = .ok (.i2l, 1) := by decide +kernel
theorem dX9_isChild_13 : decode cX9_isChild 13 = .ok (.invokestatic 56, 3) := by decide +kernel
theorem dX9_isChild_16 : decode cX9_isChild 16 = .ok (.ireturn, 1) := by decide +kernel
def f_X9_isChild (Λ : List Ly) (d : Dt) (p0 : Nat) (v1 : Int32) : Option Int32 := Option.bind (rf Λ p0 9 0) fun q1 => if okA Λ q1 1 (37 : Int32) = true then (some (f_X9_in (v1).toInt64 (0 : Int64) (((d.1 q1 ((37 : Int32)).toNatClampNeg) - (1 : Int32))).toInt64)) else none
set_option maxHeartbeats 4000000 in
set_option maxRecDepth 100000 in
theorem c_X9_isChild (Γ : Cx) (l : Launch) (Λ : List Ly) (d : Dt) (p0 : Nat) (v1 : Int32) (z : Int32) (hf : f_X9_isChild Λ d p0 v1 = some z) : Cn Γ l yX9_isChild cX9_isChild 2 (some FieldType.boolean) 1 25 [.ref (ad Γ.2.2.1 p0), .int v1] Λ d (some (.int z)) d := by
  refine Cn.of (own := "SeasonBoundModel") (by decide +kernel) rfl (Nat.le_of_ble_eq_true rfl) ?_
  intro p e s m below meth c C0 hr hlocks hH ls hl
  have hl : lv_has ls 2 [(0, .ref (ad Γ.2.2.1 p0)), (1, .int v1)] := hl
  obtain ⟨hx, hb, hml, hown, hts, hK⟩ := id C0
  unfold f_X9_isChild at hf
  refine lv_iload_n hx hb dX9_isChild_0 rfl (lv_at hl 1 rfl) ?_
  refine lv_i2l (v := (v1).toInt64) hx hb dX9_isChild_1 rfl ?_
  refine lv_lconst (v := (0 : Int64)) hx hb dX9_isChild_2 (by decide) ?_
  refine lv_aload_n hx hb dX9_isChild_3 rfl (lv_at hl 0 rfl) ?_
  obtain ⟨q1, g1, hf⟩ := ob hf
  refine r_getr C0 hH fl_X9_7 g1 dX9_isChild_4 ?_
  refine lv_bipush (v := (37 : Int32)) hx hb dX9_isChild_7 (by decide) ?_
  obtain ⟨g2, hf⟩ := gd hf
  refine r_iald C0 hH g2 dX9_isChild_9 ?_
  refine lv_iconst (v := (1 : Int32)) hx hb dX9_isChild_10 (by decide) ?_
  refine lv_isub hx hb dX9_isChild_11 ?_
  refine lv_i2l (v := (((d.1 q1 ((37 : Int32)).toNatClampNeg) - (1 : Int32))).toInt64) hx hb dX9_isChild_12 rfl ?_
  refine r_callSi (rest := []) C0 hH (c_X9_in Γ l Λ d (v1).toInt64 (0 : Int64) (((d.1 q1 ((37 : Int32)).toNatClampNeg) - (1 : Int32))).toInt64) cs_X9_56 (by decide) rfl hl.1 rfl (Nat.le_of_ble_eq_true rfl) dX9_isChild_13 (by decide) (fun H locs hH => ?_)
  obtain rfl := Option.some.inj hf
  exact r_iret (d' := d) C0 hr hlocks hH (nz (bo_X9_in _ _ _)) dX9_isChild_16
theorem dX9_isSeason_0 : decode cX9_isSeason 0 = .ok (.iload_n 0, 1) := by decide +kernel
theorem dX9_isSeason_1 : decode cX9_isSeason 1 = .ok (.i2l, 1) := by decide +kernel
theorem dX9_isSeason_2 : decode cX9_isSeason 2 = .ok (.lconst 0, 1) := by decide +kernel
theorem dX9_isSeason_3 : decode cX9_isSeason 3 = .ok (.ldc2_w 132, 3) := by decide +kernel
theorem dX9_isSeason_6 : decode cX9_isSeason 6 = .ok (.invokestatic 56, 3) := by decide +kernel
theorem dX9_isSeason_9 : decode cX9_isSeason 9 = .ok (.ireturn, 1) := by decide +kernel
def f_X9_isSeason (v0 : Int32) : Int32 := (f_X9_in (v0).toInt64 (0 : Int64) (3 : Int64))
theorem bo_X9_isSeason (v0 : Int32) : f_X9_isSeason v0 = 0 ∨ f_X9_isSeason v0 = 1 := by
  unfold f_X9_isSeason
  (repeat' split) <;> first | exact Or.inl rfl | exact Or.inr rfl | exact bo_X9_in _ _ _
set_option maxHeartbeats 4000000 in
set_option maxRecDepth 100000 in
theorem c_X9_isSeason (Γ : Cx) (l : Launch) (Λ : List Ly) (d : Dt) (v0 : Int32) : Cn Γ l yX9_isSeason cX9_isSeason 1 (some FieldType.boolean) 1 25 [.int v0] Λ d (some (.int (f_X9_isSeason v0))) d := by
  generalize hf : f_X9_isSeason v0 = z
  refine Cn.of (own := "SeasonBoundModel") (by decide +kernel) rfl (Nat.le_of_ble_eq_true rfl) ?_
  intro p e s m below meth c C0 hr hlocks hH ls hl
  have hl : lv_has ls 1 [(0, .int v0)] := hl
  obtain ⟨hx, hb, hml, hown, hts, hK⟩ := id C0
  unfold f_X9_isSeason at hf
  refine lv_iload_n hx hb dX9_isSeason_0 rfl (lv_at hl 0 rfl) ?_
  refine lv_i2l (v := (v0).toInt64) hx hb dX9_isSeason_1 rfl ?_
  refine lv_lconst (v := (0 : Int64)) hx hb dX9_isSeason_2 (by decide) ?_
  refine lv_ldc2 hx hb hown (hts _ kl_X9_132) dX9_isSeason_3 ?_
  refine r_callSi (rest := []) C0 hH (c_X9_in Γ l Λ d (v0).toInt64 (0 : Int64) (3 : Int64)) cs_X9_56 (by decide) rfl hl.1 rfl (Nat.le_of_ble_eq_true rfl) dX9_isSeason_6 (by decide) (fun H locs hH => ?_)
  subst hf
  exact r_iret (d' := d) C0 hr hlocks hH (nz (bo_X9_in _ _ _)) dX9_isSeason_9
theorem dX9_isSkill_0 : decode cX9_isSkill 0 = .ok (.iload_n 0, 1) := by decide +kernel
theorem dX9_isSkill_1 : decode cX9_isSkill 1 = .ok (.i2l, 1) := by decide +kernel
theorem dX9_isSkill_2 : decode cX9_isSkill 2 = .ok (.lconst 0, 1) := by decide +kernel
theorem dX9_isSkill_3 : decode cX9_isSkill 3 = .ok (.ldc2_w 134, 3) := by decide +kernel
theorem dX9_isSkill_6 : decode cX9_isSkill 6 = .ok (.invokestatic 56, 3) := by decide +kernel
theorem dX9_isSkill_9 : decode cX9_isSkill 9 = .ok (.ireturn, 1) := by decide +kernel
def f_X9_isSkill (v0 : Int32) : Int32 := (f_X9_in (v0).toInt64 (0 : Int64) (99 : Int64))
theorem bo_X9_isSkill (v0 : Int32) : f_X9_isSkill v0 = 0 ∨ f_X9_isSkill v0 = 1 := by
  unfold f_X9_isSkill
  (repeat' split) <;> first | exact Or.inl rfl | exact Or.inr rfl | exact bo_X9_in _ _ _
set_option maxHeartbeats 4000000 in
set_option maxRecDepth 100000 in
theorem c_X9_isSkill (Γ : Cx) (l : Launch) (Λ : List Ly) (d : Dt) (v0 : Int32) : Cn Γ l yX9_isSkill cX9_isSkill 1 (some FieldType.boolean) 1 25 [.int v0] Λ d (some (.int (f_X9_isSkill v0))) d := by
  generalize hf : f_X9_isSkill v0 = z
  refine Cn.of (own := "SeasonBoundModel") (by decide +kernel) rfl (Nat.le_of_ble_eq_true rfl) ?_
  intro p e s m below meth c C0 hr hlocks hH ls hl
  have hl : lv_has ls 1 [(0, .int v0)] := hl
  obtain ⟨hx, hb, hml, hown, hts, hK⟩ := id C0
  unfold f_X9_isSkill at hf
  refine lv_iload_n hx hb dX9_isSkill_0 rfl (lv_at hl 0 rfl) ?_
  refine lv_i2l (v := (v0).toInt64) hx hb dX9_isSkill_1 rfl ?_
  refine lv_lconst (v := (0 : Int64)) hx hb dX9_isSkill_2 (by decide) ?_
  refine lv_ldc2 hx hb hown (hts _ kl_X9_134) dX9_isSkill_3 ?_
  refine r_callSi (rest := []) C0 hH (c_X9_in Γ l Λ d (v0).toInt64 (0 : Int64) (99 : Int64)) cs_X9_56 (by decide) rfl hl.1 rfl (Nat.le_of_ble_eq_true rfl) dX9_isSkill_6 (by decide) (fun H locs hH => ?_)
  subst hf
  exact r_iret (d' := d) C0 hr hlocks hH (nz (bo_X9_in _ _ _)) dX9_isSkill_9
theorem dX9_isPart_0 : decode cX9_isPart 0 = .ok (.iload_n 0, 1) := by decide +kernel
theorem dX9_isPart_1 : decode cX9_isPart 1 = .ok (.i2l, 1) := by decide +kernel
theorem dX9_isPart_2 : decode cX9_isPart 2 = .ok (.lconst 0, 1) := by decide +kernel
theorem dX9_isPart_3 : decode cX9_isPart 3 = .ok (.lconst 1, 1) := by decide +kernel
theorem dX9_isPart_4 : decode cX9_isPart 4 = .ok (.invokestatic 56, 3) := by decide +kernel
theorem dX9_isPart_7 : decode cX9_isPart 7 = .ok (.ireturn, 1) := by decide +kernel
def f_X9_isPart (v0 : Int32) : Int32 := (f_X9_in (v0).toInt64 (0 : Int64) (1 : Int64))
theorem bo_X9_isPart (v0 : Int32) : f_X9_isPart v0 = 0 ∨ f_X9_isPart v0 = 1 := by
  unfold f_X9_isPart
  (repeat' split) <;> first | exact Or.inl rfl | exact Or.inr rfl | exact bo_X9_in _ _ _
set_option maxHeartbeats 4000000 in
set_option maxRecDepth 100000 in
theorem c_X9_isPart (Γ : Cx) (l : Launch) (Λ : List Ly) (d : Dt) (v0 : Int32) : Cn Γ l yX9_isPart cX9_isPart 1 (some FieldType.boolean) 1 25 [.int v0] Λ d (some (.int (f_X9_isPart v0))) d := by
  generalize hf : f_X9_isPart v0 = z
  refine Cn.of (own := "SeasonBoundModel") (by decide +kernel) rfl (Nat.le_of_ble_eq_true rfl) ?_
  intro p e s m below meth c C0 hr hlocks hH ls hl
  have hl : lv_has ls 1 [(0, .int v0)] := hl
  obtain ⟨hx, hb, hml, hown, hts, hK⟩ := id C0
  unfold f_X9_isPart at hf
  refine lv_iload_n hx hb dX9_isPart_0 rfl (lv_at hl 0 rfl) ?_
  refine lv_i2l (v := (v0).toInt64) hx hb dX9_isPart_1 rfl ?_
  refine lv_lconst (v := (0 : Int64)) hx hb dX9_isPart_2 (by decide) ?_
  refine lv_lconst (v := (1 : Int64)) hx hb dX9_isPart_3 (by decide) ?_
  refine r_callSi (rest := []) C0 hH (c_X9_in Γ l Λ d (v0).toInt64 (0 : Int64) (1 : Int64)) cs_X9_56 (by decide) rfl hl.1 rfl (Nat.le_of_ble_eq_true rfl) dX9_isPart_4 (by decide) (fun H locs hH => ?_)
  subst hf
  exact r_iret (d' := d) C0 hr hlocks hH (nz (bo_X9_in _ _ _)) dX9_isPart_7
theorem dX9_starts_0 : decode cX9_starts 0 = .ok (.iconst 0, 1) := by decide +kernel
theorem dX9_starts_1 : decode cX9_starts 1 = .ok (.istore_n 1, 1) := by decide +kernel
theorem dX9_starts_2 : decode cX9_starts 2 = .ok (.iload_n 1, 1) := by decide +kernel
theorem dX9_starts_3 : decode cX9_starts 3 = .ok (.bipush 60, 2) := by decide +kernel
theorem dX9_starts_5 : decode cX9_starts 5 = .ok (.if_icmp .ge 21, 3) := by decide +kernel
theorem dX9_starts_8 : decode cX9_starts 8 = .ok (.aload_n 0, 1) := by decide +kernel
theorem dX9_starts_9 : decode cX9_starts 9 = .ok (.getfield 13, 3) := by decide +kernel
theorem dX9_starts_12 : decode cX9_starts 12 = .ok (.iload_n 1, 1) := by decide +kernel
theorem dX9_starts_13 : decode cX9_starts 13 = .ok (.aload_n 0, 1) := by decide +kernel
theorem dX9_starts_14 : decode cX9_starts 14 = .ok (.getfield 7, 3) := by decide +kernel
theorem dX9_starts_17 : decode cX9_starts 17 = .ok (.iload_n 1, 1) := by decide +kernel
theorem dX9_starts_18 : decode cX9_starts 18 = .ok (.iaload, 1) := by decide +kernel
theorem dX9_starts_19 : decode cX9_starts 19 = .ok (.iastore, 1) := by decide +kernel
theorem dX9_starts_20 : decode cX9_starts 20 = .ok (.iinc 1 1, 3) := by decide +kernel
theorem dX9_starts_23 : decode cX9_starts 23 = .ok (.goto (-21), 3) := by decide +kernel
theorem dX9_starts_26 : decode cX9_starts 26 = .ok (.return_, 1) := by decide +kernel
def f_X9_starts_L2 (Λ : List Ly) (p0 : Nat) : Nat → Int32 → Dt → Option Dt
  | 0, _, _ => none
  | n + 1, v1, d => if (60 : Int32) ≤ v1 then (some d) else (Option.bind (rf Λ p0 9 1) fun q2 => Option.bind (rf Λ p0 9 0) fun q3 => if okA Λ q3 1 v1 = true then (if okA Λ q2 1 v1 = true then (f_X9_starts_L2 Λ p0 n (v1 + (1 : Int32)) (pI d q2 (v1).toNatClampNeg (d.1 q3 (v1).toNatClampNeg))) else none) else none)
def f_X9_starts (Λ : List Ly) (d : Dt) (p0 : Nat) : Option Dt := f_X9_starts_L2 Λ p0 FU (0 : Int32) d
set_option maxHeartbeats 4000000 in
set_option maxRecDepth 100000 in
theorem w_X9_starts_L2 {p : Program} {l : Launch} {e : Env} {s : State} {m : MethodId} {args : Array Value} {below : List Frame} {meth : Method} {c : Code} {Γ : Cx} {Λ : List Ly} {z : Dt} (C0 : Ct Γ p s m args c cX9_starts 2 "SeasonBoundModel") (hr : meth.sig.returnType = none) (hlocks : meth.locks = false) (p0 : Nat) :
    ∀ (n : Nat) (v1 : Int32) (d : Dt), f_X9_starts_L2 Λ p0 n v1 d = some z → ∀ (H : Heap) (locs : List Loc) (ls : Array Slot), Hs Γ Λ d s H locs → lv_has ls 2 [(0, .ref (ad Γ.2.2.1 p0)), (1, .int v1)] → W p l e { frames := 0, cells := 0, slots := 0, locals := 0 } s m args below meth c H locs 0 0 (MQ below (QN Γ Λ z none) args s 0 0 (AP Γ)) (F0 m 2 ls []) := by
  obtain ⟨hx, hb, hml, hown, hts, hK⟩ := id C0
  intro n
  induction n with
  | zero =>
    intro v1 d hf
    cases hf
  | succ n ih =>
    intro v1 d hf H locs ls hH hl
    unfold f_X9_starts_L2 at hf
    refine lv_iload_n hx hb dX9_starts_2 rfl (lv_at hl 1 rfl) ?_
    refine lv_bipush (v := (60 : Int32)) hx hb dX9_starts_3 (by decide) ?_
    refine lv_icmp_ge (tgt := 26) hx hb dX9_starts_5 (by decide) (fun c1 => ?_) (fun c1 => ?_)
    · replace hf := it hf c1
      obtain rfl := Option.some.inj hf
      exact r_vret C0 hr hlocks hH dX9_starts_26
    · replace hf := ie hf c1
      refine lv_aload_n hx hb dX9_starts_8 rfl (lv_at hl 0 rfl) ?_
      obtain ⟨q2, g2, hf⟩ := ob hf
      refine r_getr C0 hH fl_X9_13 g2 dX9_starts_9 ?_
      refine lv_iload_n hx hb dX9_starts_12 rfl (lv_at hl 1 rfl) ?_
      refine lv_aload_n hx hb dX9_starts_13 rfl (lv_at hl 0 rfl) ?_
      obtain ⟨q3, g3, hf⟩ := ob hf
      refine r_getr C0 hH fl_X9_7 g3 dX9_starts_14 ?_
      refine lv_iload_n hx hb dX9_starts_17 rfl (lv_at hl 1 rfl) ?_
      obtain ⟨g4, hf⟩ := gd hf
      refine r_iald C0 hH g4 dX9_starts_18 ?_
      obtain ⟨g5, hf⟩ := gd hf
      refine r_iast C0 hH g5 dX9_starts_19 (fun H locs hH => ?_)
      refine lv_iinc (v := (v1 + (1 : Int32))) (lv' := [(1, .int (v1 + (1 : Int32))), (0, .ref (ad Γ.2.2.1 p0))]) hx hb dX9_starts_20 hl (k := 1) rfl (congrArg (fun w => v1 + w) (by decide)) (by decide) rfl (fun ls hl => ?_)
      refine lv_goto (tgt := 2) hx hb dX9_starts_23 (by decide) ?_
      exact ih (v1 + (1 : Int32)) (pI d q2 (v1).toNatClampNeg (d.1 q3 (v1).toNatClampNeg)) hf _ _ _ hH (lv_sub hl [1, 0] rfl)
set_option maxHeartbeats 4000000 in
set_option maxRecDepth 100000 in
theorem c_X9_starts (Γ : Cx) (l : Launch) (Λ : List Ly) (d : Dt) (p0 : Nat) (z : Dt) (hf : f_X9_starts Λ d p0 = some z) : Cn Γ l yX9_starts cX9_starts 2 none 0 0 [.ref (ad Γ.2.2.1 p0)] Λ d none z := by
  refine Cn.of (own := "SeasonBoundModel") (by decide +kernel) rfl (Nat.le_of_ble_eq_true rfl) ?_
  intro p e s m below meth c C0 hr hlocks hH ls hl
  have hl : lv_has ls 2 [(0, .ref (ad Γ.2.2.1 p0))] := hl
  obtain ⟨hx, hb, hml, hown, hts, hK⟩ := id C0
  unfold f_X9_starts at hf
  refine lv_iconst (v := (0 : Int32)) hx hb dX9_starts_0 (by decide) ?_
  refine lv_istore_n (lv' := [(1, .int (0 : Int32)), (0, .ref (ad Γ.2.2.1 p0))]) hx hb dX9_starts_1 rfl hl (by decide) rfl (fun ls hl => ?_)
  refine w_X9_starts_L2 C0 hr hlocks p0 FU (0 : Int32) d hf _ _ _ hH (lv_sub hl [1, 0] rfl)
theorem dX9_settles_0 : decode cX9_settles 0 = .ok (.iconst 0, 1) := by decide +kernel
theorem dX9_settles_1 : decode cX9_settles 1 = .ok (.istore_n 1, 1) := by decide +kernel
theorem dX9_settles_2 : decode cX9_settles 2 = .ok (.iload_n 1, 1) := by decide +kernel
theorem dX9_settles_3 : decode cX9_settles 3 = .ok (.bipush 60, 2) := by decide +kernel
theorem dX9_settles_5 : decode cX9_settles 5 = .ok (.if_icmp .ge 21, 3) := by decide +kernel
theorem dX9_settles_8 : decode cX9_settles 8 = .ok (.aload_n 0, 1) := by decide +kernel
theorem dX9_settles_9 : decode cX9_settles 9 = .ok (.getfield 7, 3) := by decide +kernel
theorem dX9_settles_12 : decode cX9_settles 12 = .ok (.iload_n 1, 1) := by decide +kernel
theorem dX9_settles_13 : decode cX9_settles 13 = .ok (.aload_n 0, 1) := by decide +kernel
theorem dX9_settles_14 : decode cX9_settles 14 = .ok (.getfield 13, 3) := by decide +kernel
theorem dX9_settles_17 : decode cX9_settles 17 = .ok (.iload_n 1, 1) := by decide +kernel
theorem dX9_settles_18 : decode cX9_settles 18 = .ok (.iaload, 1) := by decide +kernel
theorem dX9_settles_19 : decode cX9_settles 19 = .ok (.iastore, 1) := by decide +kernel
theorem dX9_settles_20 : decode cX9_settles 20 = .ok (.iinc 1 1, 3) := by decide +kernel
theorem dX9_settles_23 : decode cX9_settles 23 = .ok (.goto (-21), 3) := by decide +kernel
theorem dX9_settles_26 : decode cX9_settles 26 = .ok (.return_, 1) := by decide +kernel
def f_X9_settles_L2 (Λ : List Ly) (p0 : Nat) : Nat → Int32 → Dt → Option Dt
  | 0, _, _ => none
  | n + 1, v1, d => if (60 : Int32) ≤ v1 then (some d) else (Option.bind (rf Λ p0 9 0) fun q2 => Option.bind (rf Λ p0 9 1) fun q3 => if okA Λ q3 1 v1 = true then (if okA Λ q2 1 v1 = true then (f_X9_settles_L2 Λ p0 n (v1 + (1 : Int32)) (pI d q2 (v1).toNatClampNeg (d.1 q3 (v1).toNatClampNeg))) else none) else none)
def f_X9_settles (Λ : List Ly) (d : Dt) (p0 : Nat) : Option Dt := f_X9_settles_L2 Λ p0 FU (0 : Int32) d
set_option maxHeartbeats 4000000 in
set_option maxRecDepth 100000 in
theorem w_X9_settles_L2 {p : Program} {l : Launch} {e : Env} {s : State} {m : MethodId} {args : Array Value} {below : List Frame} {meth : Method} {c : Code} {Γ : Cx} {Λ : List Ly} {z : Dt} (C0 : Ct Γ p s m args c cX9_settles 2 "SeasonBoundModel") (hr : meth.sig.returnType = none) (hlocks : meth.locks = false) (p0 : Nat) :
    ∀ (n : Nat) (v1 : Int32) (d : Dt), f_X9_settles_L2 Λ p0 n v1 d = some z → ∀ (H : Heap) (locs : List Loc) (ls : Array Slot), Hs Γ Λ d s H locs → lv_has ls 2 [(0, .ref (ad Γ.2.2.1 p0)), (1, .int v1)] → W p l e { frames := 0, cells := 0, slots := 0, locals := 0 } s m args below meth c H locs 0 0 (MQ below (QN Γ Λ z none) args s 0 0 (AP Γ)) (F0 m 2 ls []) := by
  obtain ⟨hx, hb, hml, hown, hts, hK⟩ := id C0
  intro n
  induction n with
  | zero =>
    intro v1 d hf
    cases hf
  | succ n ih =>
    intro v1 d hf H locs ls hH hl
    unfold f_X9_settles_L2 at hf
    refine lv_iload_n hx hb dX9_settles_2 rfl (lv_at hl 1 rfl) ?_
    refine lv_bipush (v := (60 : Int32)) hx hb dX9_settles_3 (by decide) ?_
    refine lv_icmp_ge (tgt := 26) hx hb dX9_settles_5 (by decide) (fun c1 => ?_) (fun c1 => ?_)
    · replace hf := it hf c1
      obtain rfl := Option.some.inj hf
      exact r_vret C0 hr hlocks hH dX9_settles_26
    · replace hf := ie hf c1
      refine lv_aload_n hx hb dX9_settles_8 rfl (lv_at hl 0 rfl) ?_
      obtain ⟨q2, g2, hf⟩ := ob hf
      refine r_getr C0 hH fl_X9_7 g2 dX9_settles_9 ?_
      refine lv_iload_n hx hb dX9_settles_12 rfl (lv_at hl 1 rfl) ?_
      refine lv_aload_n hx hb dX9_settles_13 rfl (lv_at hl 0 rfl) ?_
      obtain ⟨q3, g3, hf⟩ := ob hf
      refine r_getr C0 hH fl_X9_13 g3 dX9_settles_14 ?_
      refine lv_iload_n hx hb dX9_settles_17 rfl (lv_at hl 1 rfl) ?_
      obtain ⟨g4, hf⟩ := gd hf
      refine r_iald C0 hH g4 dX9_settles_18 ?_
      obtain ⟨g5, hf⟩ := gd hf
      refine r_iast C0 hH g5 dX9_settles_19 (fun H locs hH => ?_)
      refine lv_iinc (v := (v1 + (1 : Int32))) (lv' := [(1, .int (v1 + (1 : Int32))), (0, .ref (ad Γ.2.2.1 p0))]) hx hb dX9_settles_20 hl (k := 1) rfl (congrArg (fun w => v1 + w) (by decide)) (by decide) rfl (fun ls hl => ?_)
      refine lv_goto (tgt := 2) hx hb dX9_settles_23 (by decide) ?_
      exact ih (v1 + (1 : Int32)) (pI d q2 (v1).toNatClampNeg (d.1 q3 (v1).toNatClampNeg)) hf _ _ _ hH (lv_sub hl [1, 0] rfl)
set_option maxHeartbeats 4000000 in
set_option maxRecDepth 100000 in
theorem c_X9_settles (Γ : Cx) (l : Launch) (Λ : List Ly) (d : Dt) (p0 : Nat) (z : Dt) (hf : f_X9_settles Λ d p0 = some z) : Cn Γ l yX9_settles cX9_settles 2 none 0 0 [.ref (ad Γ.2.2.1 p0)] Λ d none z := by
  refine Cn.of (own := "SeasonBoundModel") (by decide +kernel) rfl (Nat.le_of_ble_eq_true rfl) ?_
  intro p e s m below meth c C0 hr hlocks hH ls hl
  have hl : lv_has ls 2 [(0, .ref (ad Γ.2.2.1 p0))] := hl
  obtain ⟨hx, hb, hml, hown, hts, hK⟩ := id C0
  unfold f_X9_settles at hf
  refine lv_iconst (v := (0 : Int32)) hx hb dX9_settles_0 (by decide) ?_
  refine lv_istore_n (lv' := [(1, .int (0 : Int32)), (0, .ref (ad Γ.2.2.1 p0))]) hx hb dX9_settles_1 rfl hl (by decide) rfl (fun ls hl => ?_)
  refine w_X9_settles_L2 C0 hr hlocks p0 FU (0 : Int32) d hf _ _ _ hH (lv_sub hl [1, 0] rfl)
theorem dX9_of_0 : decode cX9_of 0 = .ok (.aload_n 0, 1) := by decide +kernel
theorem dX9_of_1 : decode cX9_of 1 = .ok (.getfield 13, 3) := by decide +kernel
theorem dX9_of_4 : decode cX9_of 4 = .ok (.bipush 12, 2) := by decide +kernel
theorem dX9_of_6 : decode cX9_of 6 = .ok (.iconst 5, 1) := by decide +kernel
theorem dX9_of_7 : decode cX9_of 7 = .ok (.iload_n 1, 1) := by decide +kernel
theorem dX9_of_8 : decode cX9_of 8 = .ok (.imul, 1) := by decide +kernel
theorem dX9_of_9 : decode cX9_of 9 = .ok (.iadd, 1) := by decide +kernel
theorem dX9_of_10 : decode cX9_of 10 = .ok (.iload_n 2, 1) := by decide +kernel
theorem dX9_of_11 : decode cX9_of 11 = .ok (.iadd, 1) := by decide +kernel
theorem dX9_of_12 : decode cX9_of 12 = .ok (.iaload, 1) := by decide +kernel
theorem dX9_of_13 : decode cX9_of 13 = .ok (.ireturn, 1) := by decide +kernel
def f_X9_of (Λ : List Ly) (d : Dt) (p0 : Nat) (v1 : Int32) (v2 : Int32) : Option Int32 := Option.bind (rf Λ p0 9 1) fun q1 => if okA Λ q1 1 (((12 : Int32) + ((5 : Int32) * v1)) + v2) = true then (some (d.1 q1 ((((12 : Int32) + ((5 : Int32) * v1)) + v2)).toNatClampNeg)) else none
set_option maxHeartbeats 4000000 in
set_option maxRecDepth 100000 in
theorem c_X9_of (Γ : Cx) (l : Launch) (Λ : List Ly) (d : Dt) (p0 : Nat) (v1 : Int32) (v2 : Int32) (z : Int32) (hf : f_X9_of Λ d p0 v1 v2 = some z) : Cn Γ l yX9_of cX9_of 3 (some FieldType.int) 0 0 [.ref (ad Γ.2.2.1 p0), .int v1, .int v2] Λ d (some (.int z)) d := by
  refine Cn.of (own := "SeasonBoundModel") (by decide +kernel) rfl (Nat.le_of_ble_eq_true rfl) ?_
  intro p e s m below meth c C0 hr hlocks hH ls hl
  have hl : lv_has ls 3 [(0, .ref (ad Γ.2.2.1 p0)), (1, .int v1), (2, .int v2)] := hl
  obtain ⟨hx, hb, hml, hown, hts, hK⟩ := id C0
  unfold f_X9_of at hf
  refine lv_aload_n hx hb dX9_of_0 rfl (lv_at hl 0 rfl) ?_
  obtain ⟨q1, g1, hf⟩ := ob hf
  refine r_getr C0 hH fl_X9_13 g1 dX9_of_1 ?_
  refine lv_bipush (v := (12 : Int32)) hx hb dX9_of_4 (by decide) ?_
  refine lv_iconst (v := (5 : Int32)) hx hb dX9_of_6 (by decide) ?_
  refine lv_iload_n hx hb dX9_of_7 rfl (lv_at hl 1 rfl) ?_
  refine lv_imul hx hb dX9_of_8 ?_
  refine lv_iadd hx hb dX9_of_9 ?_
  refine lv_iload_n hx hb dX9_of_10 rfl (lv_at hl 2 rfl) ?_
  refine lv_iadd hx hb dX9_of_11 ?_
  obtain ⟨g2, hf⟩ := gd hf
  refine r_iald C0 hH g2 dX9_of_12 ?_
  obtain rfl := Option.some.inj hf
  exact r_iret (d' := d) C0 hr hlocks hH rfl dX9_of_13
theorem dX9_becomesOf_0 : decode cX9_becomesOf 0 = .ok (.aload_n 0, 1) := by decide +kernel
theorem dX9_becomesOf_1 : decode cX9_becomesOf 1 = .ok (.getfield 13, 3) := by decide +kernel
theorem dX9_becomesOf_4 : decode cX9_becomesOf 4 = .ok (.bipush 12, 2) := by decide +kernel
theorem dX9_becomesOf_6 : decode cX9_becomesOf 6 = .ok (.iconst 5, 1) := by decide +kernel
theorem dX9_becomesOf_7 : decode cX9_becomesOf 7 = .ok (.iload_n 1, 1) := by decide +kernel
theorem dX9_becomesOf_8 : decode cX9_becomesOf 8 = .ok (.imul, 1) := by decide +kernel
theorem dX9_becomesOf_9 : decode cX9_becomesOf 9 = .ok (.iadd, 1) := by decide +kernel
theorem dX9_becomesOf_10 : decode cX9_becomesOf 10 = .ok (.iload_n 2, 1) := by decide +kernel
theorem dX9_becomesOf_11 : decode cX9_becomesOf 11 = .ok (.iadd, 1) := by decide +kernel
theorem dX9_becomesOf_12 : decode cX9_becomesOf 12 = .ok (.iload_n 3, 1) := by decide +kernel
theorem dX9_becomesOf_13 : decode cX9_becomesOf 13 = .ok (.iastore, 1) := by decide +kernel
theorem dX9_becomesOf_14 : decode cX9_becomesOf 14 = .ok (.return_, 1) := by decide +kernel
def f_X9_becomesOf (Λ : List Ly) (d : Dt) (p0 : Nat) (v1 : Int32) (v2 : Int32) (v3 : Int32) : Option Dt := Option.bind (rf Λ p0 9 1) fun q1 => if okA Λ q1 1 (((12 : Int32) + ((5 : Int32) * v1)) + v2) = true then (some (pI d q1 ((((12 : Int32) + ((5 : Int32) * v1)) + v2)).toNatClampNeg v3)) else none
set_option maxHeartbeats 4000000 in
set_option maxRecDepth 100000 in
theorem c_X9_becomesOf (Γ : Cx) (l : Launch) (Λ : List Ly) (d : Dt) (p0 : Nat) (v1 : Int32) (v2 : Int32) (v3 : Int32) (z : Dt) (hf : f_X9_becomesOf Λ d p0 v1 v2 v3 = some z) : Cn Γ l yX9_becomesOf cX9_becomesOf 4 none 0 0 [.ref (ad Γ.2.2.1 p0), .int v1, .int v2, .int v3] Λ d none z := by
  refine Cn.of (own := "SeasonBoundModel") (by decide +kernel) rfl (Nat.le_of_ble_eq_true rfl) ?_
  intro p e s m below meth c C0 hr hlocks hH ls hl
  have hl : lv_has ls 4 [(0, .ref (ad Γ.2.2.1 p0)), (1, .int v1), (2, .int v2), (3, .int v3)] := hl
  obtain ⟨hx, hb, hml, hown, hts, hK⟩ := id C0
  unfold f_X9_becomesOf at hf
  refine lv_aload_n hx hb dX9_becomesOf_0 rfl (lv_at hl 0 rfl) ?_
  obtain ⟨q1, g1, hf⟩ := ob hf
  refine r_getr C0 hH fl_X9_13 g1 dX9_becomesOf_1 ?_
  refine lv_bipush (v := (12 : Int32)) hx hb dX9_becomesOf_4 (by decide) ?_
  refine lv_iconst (v := (5 : Int32)) hx hb dX9_becomesOf_6 (by decide) ?_
  refine lv_iload_n hx hb dX9_becomesOf_7 rfl (lv_at hl 1 rfl) ?_
  refine lv_imul hx hb dX9_becomesOf_8 ?_
  refine lv_iadd hx hb dX9_becomesOf_9 ?_
  refine lv_iload_n hx hb dX9_becomesOf_10 rfl (lv_at hl 2 rfl) ?_
  refine lv_iadd hx hb dX9_becomesOf_11 ?_
  refine lv_iload_n hx hb dX9_becomesOf_12 rfl (lv_at hl 3 rfl) ?_
  obtain ⟨g2, hf⟩ := gd hf
  refine r_iast C0 hH g2 dX9_becomesOf_13 (fun H locs hH => ?_)
  obtain rfl := Option.some.inj hf
  exact r_vret C0 hr hlocks hH dX9_becomesOf_14
theorem dX9_isFree_0 : decode cX9_isFree 0 = .ok (.aload_n 0, 1) := by decide +kernel
theorem dX9_isFree_1 : decode cX9_isFree 1 = .ok (.iload_n 1, 1) := by decide +kernel
theorem dX9_isFree_2 : decode cX9_isFree 2 = .ok (.iconst 1, 1) := by decide +kernel
theorem dX9_isFree_3 : decode cX9_isFree 3 = .ok (.invokevirtual 136, 3) := by decide +kernel
theorem dX9_isFree_6 : decode cX9_isFree 6 = .ok (.bipush (-4), 2) := by decide +kernel
theorem dX9_isFree_8 : decode cX9_isFree 8 = .ok (.if_icmp .ne 7, 3) := by decide +kernel
theorem dX9_isFree_11 : decode cX9_isFree 11 = .ok (.iconst 1, 1) := by decide +kernel
theorem dX9_isFree_12 : decode cX9_isFree 12 = .ok (.goto 4, 3) := by decide +kernel
theorem dX9_isFree_15 : decode cX9_isFree 15 = .ok (.iconst 0, 1) := by decide +kernel
theorem dX9_isFree_16 : decode cX9_isFree 16 = .ok (.ireturn, 1) := by decide +kernel
def f_X9_isFree (Λ : List Ly) (d : Dt) (p0 : Nat) (v1 : Int32) : Option Int32 := if clsAt Λ p0 = some 9 then (Option.bind (f_X9_of Λ d p0 v1 (1 : Int32)) fun z2 => if z2 = (-4 : Int32) then (some (1 : Int32)) else (some (0 : Int32))) else none
set_option maxHeartbeats 4000000 in
set_option maxRecDepth 100000 in
theorem c_X9_isFree (Γ : Cx) (l : Launch) (Λ : List Ly) (d : Dt) (p0 : Nat) (v1 : Int32) (z : Int32) (hf : f_X9_isFree Λ d p0 v1 = some z) : Cn Γ l yX9_isFree cX9_isFree 2 (some FieldType.boolean) 1 22 [.ref (ad Γ.2.2.1 p0), .int v1] Λ d (some (.int z)) d := by
  refine Cn.of (own := "SeasonBoundModel") (by decide +kernel) rfl (Nat.le_of_ble_eq_true rfl) ?_
  intro p e s m below meth c C0 hr hlocks hH ls hl
  have hl : lv_has ls 2 [(0, .ref (ad Γ.2.2.1 p0)), (1, .int v1)] := hl
  obtain ⟨hx, hb, hml, hown, hts, hK⟩ := id C0
  unfold f_X9_isFree at hf
  refine lv_aload_n hx hb dX9_isFree_0 rfl (lv_at hl 0 rfl) ?_
  refine lv_iload_n hx hb dX9_isFree_1 rfl (lv_at hl 1 rfl) ?_
  refine lv_iconst (v := (1 : Int32)) hx hb dX9_isFree_2 (by decide) ?_
  obtain ⟨g1, hf⟩ := gd hf
  obtain ⟨z2, h2, hf⟩ := ob hf
  refine r_callVi (rest := []) C0 hH (c_X9_of Γ l Λ d p0 v1 (1 : Int32) z2 h2) cv_X9_136 g1 (by decide) rfl hl.1 rfl (Nat.le_of_ble_eq_true rfl) dX9_isFree_3 (by decide) (fun H locs hH => ?_)
  refine lv_bipush (v := (-4 : Int32)) hx hb dX9_isFree_6 (by decide) ?_
  refine lv_icmp_ne (tgt := 15) hx hb dX9_isFree_8 (by decide) (fun c3 => ?_) (fun c3 => ?_)
  · replace hf := ie hf c3
    refine lv_iconst (v := (0 : Int32)) hx hb dX9_isFree_15 (by decide) ?_
    obtain rfl := Option.some.inj hf
    exact r_iret (d' := d) C0 hr hlocks hH (nz (Or.inl rfl)) dX9_isFree_16
  · replace hf := it hf c3
    refine lv_iconst (v := (1 : Int32)) hx hb dX9_isFree_11 (by decide) ?_
    refine lv_goto (tgt := 16) hx hb dX9_isFree_12 (by decide) ?_
    obtain rfl := Option.some.inj hf
    exact r_iret (d' := d) C0 hr hlocks hH (nz (Or.inr rfl)) dX9_isFree_16
theorem dX9_learns_0 : decode cX9_learns 0 = .ok (.aload_n 0, 1) := by decide +kernel
theorem dX9_learns_1 : decode cX9_learns 1 = .ok (.getfield 13, 3) := by decide +kernel
theorem dX9_learns_4 : decode cX9_learns 4 = .ok (.iconst 3, 1) := by decide +kernel
theorem dX9_learns_5 : decode cX9_learns 5 = .ok (.aload_n 0, 1) := by decide +kernel
theorem dX9_learns_6 : decode cX9_learns 6 = .ok (.iload_n 1, 1) := by decide +kernel
theorem dX9_learns_7 : decode cX9_learns 7 = .ok (.iconst 1, 1) := by decide +kernel
theorem dX9_learns_8 : decode cX9_learns 8 = .ok (.invokevirtual 136, 3) := by decide +kernel
theorem dX9_learns_11 : decode cX9_learns 11 = .ok (.imul, 1) := by decide +kernel
theorem dX9_learns_12 : decode cX9_learns 12 = .ok (.iconst 1, 1) := by decide +kernel
theorem dX9_learns_13 : decode cX9_learns 13 = .ok (.iadd, 1) := by decide +kernel
theorem dX9_learns_14 : decode cX9_learns 14 = .ok (.iaload, 1) := by decide +kernel
theorem dX9_learns_15 : decode cX9_learns 15 = .ok (.istore_n 2, 1) := by decide +kernel
theorem dX9_learns_16 : decode cX9_learns 16 = .ok (.iload_n 2, 1) := by decide +kernel
theorem dX9_learns_17 : decode cX9_learns 17 = .ok (.iconst 1, 1) := by decide +kernel
theorem dX9_learns_18 : decode cX9_learns 18 = .ok (.iadd, 1) := by decide +kernel
theorem dX9_learns_19 : decode cX9_learns 19 = .ok (.iconst 2, 1) := by decide +kernel
theorem dX9_learns_20 : decode cX9_learns 20 = .ok (.idiv, 1) := by decide +kernel
theorem dX9_learns_21 : decode cX9_learns 21 = .ok (.istore_n 3, 1) := by decide +kernel
theorem dX9_learns_22 : decode cX9_learns 22 = .ok (.aload_n 0, 1) := by decide +kernel
theorem dX9_learns_23 : decode cX9_learns 23 = .ok (.iload_n 1, 1) := by decide +kernel
theorem dX9_learns_24 : decode cX9_learns 24 = .ok (.iconst 0, 1) := by decide +kernel
theorem dX9_learns_25 : decode cX9_learns 25 = .ok (.invokevirtual 136, 3) := by decide +kernel
theorem dX9_learns_28 : decode cX9_learns 28 = .ok (.istore 4, 2) := by decide +kernel
theorem dX9_learns_30 : decode cX9_learns 30 = .ok (.iload 4, 2) := by decide +kernel
theorem dX9_learns_32 : decode cX9_learns 32 = .ok (.iconst 1, 1) := by decide +kernel
theorem dX9_learns_33 : decode cX9_learns 33 = .ok (.if_icmp .ne 9, 3) := by decide +kernel
theorem dX9_learns_36 : decode cX9_learns 36 = .ok (.iconst 2, 1) := by decide +kernel
theorem dX9_learns_37 : decode cX9_learns 37 = .ok (.iload_n 2, 1) := by decide +kernel
theorem dX9_learns_38 : decode cX9_learns 38 = .ok (.imul, 1) := by decide +kernel
theorem dX9_learns_39 : decode cX9_learns 39 = .ok (.goto 26, 3) := by decide +kernel
theorem dX9_learns_42 : decode cX9_learns 42 = .ok (.iload 4, 2) := by decide +kernel
theorem dX9_learns_44 : decode cX9_learns 44 = .ok (.iconst 2, 1) := by decide +kernel
theorem dX9_learns_45 : decode cX9_learns 45 = .ok (.if_icmp .ne 7, 3) := by decide +kernel
theorem dX9_learns_48 : decode cX9_learns 48 = .ok (.iload_n 3, 1) := by decide +kernel
theorem dX9_learns_49 : decode cX9_learns 49 = .ok (.goto 16, 3) := by decide +kernel
theorem dX9_learns_52 : decode cX9_learns 52 = .ok (.iload 4, 2) := by decide +kernel
theorem dX9_learns_54 : decode cX9_learns 54 = .ok (.iconst 3, 1) := by decide +kernel
theorem dX9_learns_55 : decode cX9_learns 55 = .ok (.if_icmp .ne 9, 3) := by decide +kernel
theorem dX9_learns_58 : decode cX9_learns 58 = .ok (.iload_n 3, 1) := by decide +kernel
theorem dX9_learns_59 : decode cX9_learns 59 = .ok (.iconst 1, 1) := by decide +kernel
theorem dX9_learns_60 : decode cX9_learns 60 = .ok (.iadd, 1) := by decide +kernel
theorem dX9_learns_61 : decode cX9_learns 61 = .ok (.goto 4, 3) := by decide +kernel
theorem dX9_learns_64 : decode cX9_learns 64 = .ok (.iload_n 2, 1) := by decide +kernel
theorem dX9_learns_65 : decode cX9_learns 65 = .ok (.ireturn, 1) := by decide +kernel
def f_X9_learns (Λ : List Ly) (d : Dt) (p0 : Nat) (v1 : Int32) : Option Int32 := Option.bind (rf Λ p0 9 1) fun q1 => if clsAt Λ p0 = some 9 then (Option.bind (f_X9_of Λ d p0 v1 (1 : Int32)) fun z3 => if okA Λ q1 1 (((3 : Int32) * z3) + (1 : Int32)) = true then (Option.bind (f_X9_of Λ d p0 v1 (0 : Int32)) fun z5 => if z5 = (1 : Int32) then (some ((2 : Int32) * (d.1 q1 ((((3 : Int32) * z3) + (1 : Int32))).toNatClampNeg))) else (if z5 = (2 : Int32) then (some (((d.1 q1 ((((3 : Int32) * z3) + (1 : Int32))).toNatClampNeg) + (1 : Int32)) / (2 : Int32))) else (if z5 = (3 : Int32) then (some ((((d.1 q1 ((((3 : Int32) * z3) + (1 : Int32))).toNatClampNeg) + (1 : Int32)) / (2 : Int32)) + (1 : Int32))) else (some (d.1 q1 ((((3 : Int32) * z3) + (1 : Int32))).toNatClampNeg))))) else none) else none
set_option maxHeartbeats 4000000 in
set_option maxRecDepth 100000 in
theorem c_X9_learns (Γ : Cx) (l : Launch) (Λ : List Ly) (d : Dt) (p0 : Nat) (v1 : Int32) (z : Int32) (hf : f_X9_learns Λ d p0 v1 = some z) : Cn Γ l yX9_learns cX9_learns 5 (some FieldType.int) 1 22 [.ref (ad Γ.2.2.1 p0), .int v1] Λ d (some (.int z)) d := by
  refine Cn.of (own := "SeasonBoundModel") (by decide +kernel) rfl (Nat.le_of_ble_eq_true rfl) ?_
  intro p e s m below meth c C0 hr hlocks hH ls hl
  have hl : lv_has ls 5 [(0, .ref (ad Γ.2.2.1 p0)), (1, .int v1)] := hl
  obtain ⟨hx, hb, hml, hown, hts, hK⟩ := id C0
  unfold f_X9_learns at hf
  refine lv_aload_n hx hb dX9_learns_0 rfl (lv_at hl 0 rfl) ?_
  obtain ⟨q1, g1, hf⟩ := ob hf
  refine r_getr C0 hH fl_X9_13 g1 dX9_learns_1 ?_
  refine lv_iconst (v := (3 : Int32)) hx hb dX9_learns_4 (by decide) ?_
  refine lv_aload_n hx hb dX9_learns_5 rfl (lv_at hl 0 rfl) ?_
  refine lv_iload_n hx hb dX9_learns_6 rfl (lv_at hl 1 rfl) ?_
  refine lv_iconst (v := (1 : Int32)) hx hb dX9_learns_7 (by decide) ?_
  obtain ⟨g2, hf⟩ := gd hf
  obtain ⟨z3, h3, hf⟩ := ob hf
  refine r_callVi (rest := [.int (3 : Int32), .ref (ad Γ.2.2.1 q1)]) C0 hH (c_X9_of Γ l Λ d p0 v1 (1 : Int32) z3 h3) cv_X9_136 g2 (by decide) rfl hl.1 rfl (Nat.le_of_ble_eq_true rfl) dX9_learns_8 (by decide) (fun H locs hH => ?_)
  refine lv_imul hx hb dX9_learns_11 ?_
  refine lv_iconst (v := (1 : Int32)) hx hb dX9_learns_12 (by decide) ?_
  refine lv_iadd hx hb dX9_learns_13 ?_
  obtain ⟨g4, hf⟩ := gd hf
  refine r_iald C0 hH g4 dX9_learns_14 ?_
  refine lv_istore_n (lv' := [(2, .int (d.1 q1 ((((3 : Int32) * z3) + (1 : Int32))).toNatClampNeg)), (0, .ref (ad Γ.2.2.1 p0)), (1, .int v1)]) hx hb dX9_learns_15 rfl hl (by decide) rfl (fun ls hl => ?_)
  refine lv_iload_n hx hb dX9_learns_16 rfl (lv_at hl 0 rfl) ?_
  refine lv_iconst (v := (1 : Int32)) hx hb dX9_learns_17 (by decide) ?_
  refine lv_iadd hx hb dX9_learns_18 ?_
  refine lv_iconst (v := (2 : Int32)) hx hb dX9_learns_19 (by decide) ?_
  refine lv_idiv hx hb dX9_learns_20 (by decide) ?_
  refine lv_istore_n (lv' := [(3, .int (((d.1 q1 ((((3 : Int32) * z3) + (1 : Int32))).toNatClampNeg) + (1 : Int32)) / (2 : Int32))), (2, .int (d.1 q1 ((((3 : Int32) * z3) + (1 : Int32))).toNatClampNeg)), (0, .ref (ad Γ.2.2.1 p0)), (1, .int v1)]) hx hb dX9_learns_21 rfl hl (by decide) rfl (fun ls hl => ?_)
  refine lv_aload_n hx hb dX9_learns_22 rfl (lv_at hl 2 rfl) ?_
  refine lv_iload_n hx hb dX9_learns_23 rfl (lv_at hl 3 rfl) ?_
  refine lv_iconst (v := (0 : Int32)) hx hb dX9_learns_24 (by decide) ?_
  obtain ⟨z5, h5, hf⟩ := ob hf
  refine r_callVi (rest := []) C0 hH (c_X9_of Γ l Λ d p0 v1 (0 : Int32) z5 h5) cv_X9_136 g2 (by decide) rfl hl.1 rfl (Nat.le_of_ble_eq_true rfl) dX9_learns_25 (by decide) (fun H locs hH => ?_)
  refine lv_istore (lv' := [(4, .int z5), (3, .int (((d.1 q1 ((((3 : Int32) * z3) + (1 : Int32))).toNatClampNeg) + (1 : Int32)) / (2 : Int32))), (2, .int (d.1 q1 ((((3 : Int32) * z3) + (1 : Int32))).toNatClampNeg)), (0, .ref (ad Γ.2.2.1 p0)), (1, .int v1)]) hx hb dX9_learns_28 hl (by decide) rfl (fun ls hl => ?_)
  refine lv_iload hx hb dX9_learns_30 (lv_at hl 0 rfl) ?_
  refine lv_iconst (v := (1 : Int32)) hx hb dX9_learns_32 (by decide) ?_
  refine lv_icmp_ne (tgt := 42) hx hb dX9_learns_33 (by decide) (fun c6 => ?_) (fun c6 => ?_)
  · replace hf := ie hf c6
    refine lv_iload hx hb dX9_learns_42 (lv_at hl 0 rfl) ?_
    refine lv_iconst (v := (2 : Int32)) hx hb dX9_learns_44 (by decide) ?_
    refine lv_icmp_ne (tgt := 52) hx hb dX9_learns_45 (by decide) (fun c7 => ?_) (fun c7 => ?_)
    · replace hf := ie hf c7
      refine lv_iload hx hb dX9_learns_52 (lv_at hl 0 rfl) ?_
      refine lv_iconst (v := (3 : Int32)) hx hb dX9_learns_54 (by decide) ?_
      refine lv_icmp_ne (tgt := 64) hx hb dX9_learns_55 (by decide) (fun c8 => ?_) (fun c8 => ?_)
      · replace hf := ie hf c8
        refine lv_iload_n hx hb dX9_learns_64 rfl (lv_at hl 2 rfl) ?_
        obtain rfl := Option.some.inj hf
        exact r_iret (d' := d) C0 hr hlocks hH rfl dX9_learns_65
      · replace hf := it hf c8
        refine lv_iload_n hx hb dX9_learns_58 rfl (lv_at hl 1 rfl) ?_
        refine lv_iconst (v := (1 : Int32)) hx hb dX9_learns_59 (by decide) ?_
        refine lv_iadd hx hb dX9_learns_60 ?_
        refine lv_goto (tgt := 65) hx hb dX9_learns_61 (by decide) ?_
        obtain rfl := Option.some.inj hf
        exact r_iret (d' := d) C0 hr hlocks hH rfl dX9_learns_65
    · replace hf := it hf c7
      refine lv_iload_n hx hb dX9_learns_48 rfl (lv_at hl 1 rfl) ?_
      refine lv_goto (tgt := 65) hx hb dX9_learns_49 (by decide) ?_
      obtain rfl := Option.some.inj hf
      exact r_iret (d' := d) C0 hr hlocks hH rfl dX9_learns_65
  · replace hf := it hf c6
    refine lv_iconst (v := (2 : Int32)) hx hb dX9_learns_36 (by decide) ?_
    refine lv_iload_n hx hb dX9_learns_37 rfl (lv_at hl 2 rfl) ?_
    refine lv_imul hx hb dX9_learns_38 ?_
    refine lv_goto (tgt := 65) hx hb dX9_learns_39 (by decide) ?_
    obtain rfl := Option.some.inj hf
    exact r_iret (d' := d) C0 hr hlocks hH rfl dX9_learns_65
theorem dX9_lives_0 : decode cX9_lives 0 = .ok (.aload_n 0, 1) := by decide +kernel
theorem dX9_lives_1 : decode cX9_lives 1 = .ok (.iload_n 1, 1) := by decide +kernel
theorem dX9_lives_2 : decode cX9_lives 2 = .ok (.invokevirtual 139, 3) := by decide +kernel
theorem dX9_lives_5 : decode cX9_lives 5 = .ok (.ifCond .ne 19, 3) := by decide +kernel
theorem dX9_lives_8 : decode cX9_lives 8 = .ok (.aload_n 0, 1) := by decide +kernel
theorem dX9_lives_9 : decode cX9_lives 9 = .ok (.iload_n 1, 1) := by decide +kernel
theorem dX9_lives_10 : decode cX9_lives 10 = .ok (.iconst 1, 1) := by decide +kernel
theorem dX9_lives_11 : decode cX9_lives 11 = .ok (.invokevirtual 136, 3) := by decide +kernel
theorem dX9_lives_14 : decode cX9_lives 14 = .ok (.aload_n 0, 1) := by decide +kernel
theorem dX9_lives_15 : decode cX9_lives 15 = .ok (.getfield 13, 3) := by decide +kernel
theorem dX9_lives_18 : decode cX9_lives 18 = .ok (.bipush 38, 2) := by decide +kernel
theorem dX9_lives_20 : decode cX9_lives 20 = .ok (.iaload, 1) := by decide +kernel
theorem dX9_lives_21 : decode cX9_lives 21 = .ok (.if_icmp .ne 7, 3) := by decide +kernel
theorem dX9_lives_24 : decode cX9_lives 24 = .ok (.iconst 1, 1) := by decide +kernel
theorem dX9_lives_25 : decode cX9_lives 25 = .ok (.goto 4, 3) := by decide +kernel
theorem dX9_lives_28 : decode cX9_lives 28 = .ok (.iconst 0, 1) := by decide +kernel
theorem dX9_lives_29 : decode cX9_lives 29 = .ok (.ireturn, 1) := by decide +kernel
def f_X9_lives (Λ : List Ly) (d : Dt) (p0 : Nat) (v1 : Int32) : Option Int32 := if clsAt Λ p0 = some 9 then (Option.bind (f_X9_isFree Λ d p0 v1) fun z2 => if z2 = 0 then (Option.bind (f_X9_of Λ d p0 v1 (1 : Int32)) fun z4 => Option.bind (rf Λ p0 9 1) fun q5 => if okA Λ q5 1 (38 : Int32) = true then (if z4 = (d.1 q5 ((38 : Int32)).toNatClampNeg) then (some (1 : Int32)) else (some (0 : Int32))) else none) else (some (1 : Int32))) else none
set_option maxHeartbeats 4000000 in
set_option maxRecDepth 100000 in
theorem c_X9_lives (Γ : Cx) (l : Launch) (Λ : List Ly) (d : Dt) (p0 : Nat) (v1 : Int32) (z : Int32) (hf : f_X9_lives Λ d p0 v1 = some z) : Cn Γ l yX9_lives cX9_lives 2 (some FieldType.boolean) 2 43 [.ref (ad Γ.2.2.1 p0), .int v1] Λ d (some (.int z)) d := by
  refine Cn.of (own := "SeasonBoundModel") (by decide +kernel) rfl (Nat.le_of_ble_eq_true rfl) ?_
  intro p e s m below meth c C0 hr hlocks hH ls hl
  have hl : lv_has ls 2 [(0, .ref (ad Γ.2.2.1 p0)), (1, .int v1)] := hl
  obtain ⟨hx, hb, hml, hown, hts, hK⟩ := id C0
  unfold f_X9_lives at hf
  refine lv_aload_n hx hb dX9_lives_0 rfl (lv_at hl 0 rfl) ?_
  refine lv_iload_n hx hb dX9_lives_1 rfl (lv_at hl 1 rfl) ?_
  obtain ⟨g1, hf⟩ := gd hf
  obtain ⟨z2, h2, hf⟩ := ob hf
  refine r_callVi (rest := []) C0 hH (c_X9_isFree Γ l Λ d p0 v1 z2 h2) cv_X9_139 g1 (by decide) rfl hl.1 rfl (Nat.le_of_ble_eq_true rfl) dX9_lives_2 (by decide) (fun H locs hH => ?_)
  refine lv_if_ne (tgt := 24) hx hb dX9_lives_5 (by decide) (fun c3 => ?_) (fun c3 => ?_)
  · replace hf := ie hf c3
    refine lv_iconst (v := (1 : Int32)) hx hb dX9_lives_24 (by decide) ?_
    refine lv_goto (tgt := 29) hx hb dX9_lives_25 (by decide) ?_
    obtain rfl := Option.some.inj hf
    exact r_iret (d' := d) C0 hr hlocks hH (nz (Or.inr rfl)) dX9_lives_29
  · replace hf := it hf c3
    refine lv_aload_n hx hb dX9_lives_8 rfl (lv_at hl 0 rfl) ?_
    refine lv_iload_n hx hb dX9_lives_9 rfl (lv_at hl 1 rfl) ?_
    refine lv_iconst (v := (1 : Int32)) hx hb dX9_lives_10 (by decide) ?_
    obtain ⟨z4, h4, hf⟩ := ob hf
    refine r_callVi (rest := []) C0 hH (c_X9_of Γ l Λ d p0 v1 (1 : Int32) z4 h4) cv_X9_136 g1 (by decide) rfl hl.1 rfl (Nat.le_of_ble_eq_true rfl) dX9_lives_11 (by decide) (fun H locs hH => ?_)
    refine lv_aload_n hx hb dX9_lives_14 rfl (lv_at hl 0 rfl) ?_
    obtain ⟨q5, g5, hf⟩ := ob hf
    refine r_getr C0 hH fl_X9_13 g5 dX9_lives_15 ?_
    refine lv_bipush (v := (38 : Int32)) hx hb dX9_lives_18 (by decide) ?_
    obtain ⟨g6, hf⟩ := gd hf
    refine r_iald C0 hH g6 dX9_lives_20 ?_
    refine lv_icmp_ne (tgt := 28) hx hb dX9_lives_21 (by decide) (fun c7 => ?_) (fun c7 => ?_)
    · replace hf := ie hf c7
      refine lv_iconst (v := (0 : Int32)) hx hb dX9_lives_28 (by decide) ?_
      obtain rfl := Option.some.inj hf
      exact r_iret (d' := d) C0 hr hlocks hH (nz (Or.inl rfl)) dX9_lives_29
    · replace hf := it hf c7
      refine lv_iconst (v := (1 : Int32)) hx hb dX9_lives_24 (by decide) ?_
      refine lv_goto (tgt := 29) hx hb dX9_lives_25 (by decide) ?_
      obtain rfl := Option.some.inj hf
      exact r_iret (d' := d) C0 hr hlocks hH (nz (Or.inr rfl)) dX9_lives_29
theorem dX9_livingNow_0 : decode cX9_livingNow 0 = .ok (.iconst 0, 1) := by decide +kernel
theorem dX9_livingNow_1 : decode cX9_livingNow 1 = .ok (.istore_n 1, 1) := by decide +kernel
theorem dX9_livingNow_2 : decode cX9_livingNow 2 = .ok (.iconst 0, 1) := by decide +kernel
theorem dX9_livingNow_3 : decode cX9_livingNow 3 = .ok (.istore_n 2, 1) := by decide +kernel
theorem dX9_livingNow_4 : decode cX9_livingNow 4 = .ok (.iload_n 2, 1) := by decide +kernel
theorem dX9_livingNow_5 : decode cX9_livingNow 5 = .ok (.aload_n 0, 1) := by decide +kernel
theorem dX9_livingNow_6 : decode cX9_livingNow 6 = .ok (.getfield 13, 3) := by decide +kernel
theorem dX9_livingNow_9 : decode cX9_livingNow 9 = .ok (.bipush 37, 2) := by decide +kernel
theorem dX9_livingNow_11 : decode cX9_livingNow 11 = .ok (.iaload, 1) := by decide +kernel
theorem dX9_livingNow_12 : decode cX9_livingNow 12 = .ok (.if_icmp .ge 22, 3) := by decide +kernel
theorem dX9_livingNow_15 : decode cX9_livingNow 15 = .ok (.iload_n 1, 1) := by decide +kernel
theorem dX9_livingNow_16 : decode cX9_livingNow 16 = .ok (.aload_n 0, 1) := by decide +kernel
theorem dX9_livingNow_17 : decode cX9_livingNow 17 = .ok (.iload_n 2, 1) := by decide +kernel
theorem dX9_livingNow_18 : decode cX9_livingNow 18 = .ok (.invokevirtual 143, 3) := by decide +kernel
theorem dX9_livingNow_21 : decode cX9_livingNow 21 = .ok (.invokestatic 146, 3) := by decide +kernel
theorem dX9_livingNow_24 : decode cX9_livingNow 24 = .ok (.iload_n 2, 1) := by decide +kernel
theorem dX9_livingNow_25 : decode cX9_livingNow 25 = .ok (.ishl, 1) := by decide +kernel
theorem dX9_livingNow_26 : decode cX9_livingNow 26 = .ok (.ior, 1) := by decide +kernel
theorem dX9_livingNow_27 : decode cX9_livingNow 27 = .ok (.istore_n 1, 1) := by decide +kernel
theorem dX9_livingNow_28 : decode cX9_livingNow 28 = .ok (.iinc 2 1, 3) := by decide +kernel
theorem dX9_livingNow_31 : decode cX9_livingNow 31 = .ok (.goto (-27), 3) := by decide +kernel
theorem dX9_livingNow_34 : decode cX9_livingNow 34 = .ok (.iload_n 1, 1) := by decide +kernel
theorem dX9_livingNow_35 : decode cX9_livingNow 35 = .ok (.ireturn, 1) := by decide +kernel
def f_X9_livingNow_L4 (Λ : List Ly) (d : Dt) (p0 : Nat) : Nat → Int32 → Int32 → Option Int32
  | 0, _, _ => none
  | n + 1, v1, v2 => Option.bind (rf Λ p0 9 1) fun q1 => if okA Λ q1 1 (37 : Int32) = true then (if (d.1 q1 ((37 : Int32)).toNatClampNeg) ≤ v2 then (some v1) else (if clsAt Λ p0 = some 9 then (Option.bind (f_X9_lives Λ d p0 v2) fun z5 => f_X9_livingNow_L4 Λ d p0 n (v1 ||| ((f_X9_flag z5) <<< (v2 &&& 31))) (v2 + (1 : Int32))) else none)) else none
def f_X9_livingNow (Λ : List Ly) (d : Dt) (p0 : Nat) : Option Int32 := f_X9_livingNow_L4 Λ d p0 FU (0 : Int32) (0 : Int32)
set_option maxHeartbeats 4000000 in
set_option maxRecDepth 100000 in
theorem w_X9_livingNow_L4 {p : Program} {l : Launch} {e : Env} {s : State} {m : MethodId} {args : Array Value} {below : List Frame} {meth : Method} {c : Code} {Γ : Cx} {Λ : List Ly} {z : Int32} {d : Dt} (C0 : Ct Γ p s m args c cX9_livingNow 3 "SeasonBoundModel") (hr : meth.sig.returnType = (some FieldType.int)) (hlocks : meth.locks = false) (p0 : Nat) :
    ∀ (n : Nat) (v1 : Int32) (v2 : Int32), f_X9_livingNow_L4 Λ d p0 n v1 v2 = some z → ∀ (H : Heap) (locs : List Loc) (ls : Array Slot), Hs Γ Λ d s H locs → lv_has ls 3 [(0, .ref (ad Γ.2.2.1 p0)), (1, .int v1), (2, .int v2)] → W p l e { frames := 3, cells := 0, slots := 0, locals := 64 } s m args below meth c H locs 0 0 (MQ below (QN Γ Λ d (some (.int z))) args s 0 0 (AP Γ)) (F0 m 4 ls []) := by
  obtain ⟨hx, hb, hml, hown, hts, hK⟩ := id C0
  intro n
  induction n with
  | zero =>
    intro v1 v2 hf
    cases hf
  | succ n ih =>
    intro v1 v2 hf H locs ls hH hl
    unfold f_X9_livingNow_L4 at hf
    refine lv_iload_n hx hb dX9_livingNow_4 rfl (lv_at hl 2 rfl) ?_
    refine lv_aload_n hx hb dX9_livingNow_5 rfl (lv_at hl 0 rfl) ?_
    obtain ⟨q1, g1, hf⟩ := ob hf
    refine r_getr C0 hH fl_X9_13 g1 dX9_livingNow_6 ?_
    refine lv_bipush (v := (37 : Int32)) hx hb dX9_livingNow_9 (by decide) ?_
    obtain ⟨g2, hf⟩ := gd hf
    refine r_iald C0 hH g2 dX9_livingNow_11 ?_
    refine lv_icmp_ge (tgt := 34) hx hb dX9_livingNow_12 (by decide) (fun c3 => ?_) (fun c3 => ?_)
    · replace hf := it hf c3
      refine lv_iload_n hx hb dX9_livingNow_34 rfl (lv_at hl 1 rfl) ?_
      obtain rfl := Option.some.inj hf
      exact r_iret (d' := d) C0 hr hlocks hH rfl dX9_livingNow_35
    · replace hf := ie hf c3
      refine lv_iload_n hx hb dX9_livingNow_15 rfl (lv_at hl 1 rfl) ?_
      refine lv_aload_n hx hb dX9_livingNow_16 rfl (lv_at hl 0 rfl) ?_
      refine lv_iload_n hx hb dX9_livingNow_17 rfl (lv_at hl 2 rfl) ?_
      obtain ⟨g4, hf⟩ := gd hf
      obtain ⟨z5, h5, hf⟩ := ob hf
      refine r_callVi (rest := [.int v1]) C0 hH (c_X9_lives Γ l Λ d p0 v2 z5 h5) cv_X9_143 g4 (by decide) rfl hl.1 rfl (Nat.le_of_ble_eq_true rfl) dX9_livingNow_18 (by decide) (fun H locs hH => ?_)
      refine r_callSi (rest := [.int v1]) C0 hH (c_X9_flag Γ l Λ d z5) cs_X9_146 (by decide) rfl hl.1 rfl (Nat.le_of_ble_eq_true rfl) dX9_livingNow_21 (by decide) (fun H locs hH => ?_)
      refine lv_iload_n hx hb dX9_livingNow_24 rfl (lv_at hl 2 rfl) ?_
      refine lv_ishl hx hb dX9_livingNow_25 ?_
      refine lv_ior hx hb dX9_livingNow_26 ?_
      refine lv_istore_n (lv' := [(1, .int (v1 ||| ((f_X9_flag z5) <<< (v2 &&& 31)))), (0, .ref (ad Γ.2.2.1 p0)), (2, .int v2)]) hx hb dX9_livingNow_27 rfl hl (by decide) rfl (fun ls hl => ?_)
      refine lv_iinc (v := (v2 + (1 : Int32))) (lv' := [(2, .int (v2 + (1 : Int32))), (1, .int (v1 ||| ((f_X9_flag z5) <<< (v2 &&& 31)))), (0, .ref (ad Γ.2.2.1 p0))]) hx hb dX9_livingNow_28 hl (k := 2) rfl (congrArg (fun w => v2 + w) (by decide)) (by decide) rfl (fun ls hl => ?_)
      refine lv_goto (tgt := 4) hx hb dX9_livingNow_31 (by decide) ?_
      exact ih (v1 ||| ((f_X9_flag z5) <<< (v2 &&& 31))) (v2 + (1 : Int32)) hf _ _ _ hH (lv_sub hl [2, 1, 0] rfl)
set_option maxHeartbeats 4000000 in
set_option maxRecDepth 100000 in
theorem c_X9_livingNow (Γ : Cx) (l : Launch) (Λ : List Ly) (d : Dt) (p0 : Nat) (z : Int32) (hf : f_X9_livingNow Λ d p0 = some z) : Cn Γ l yX9_livingNow cX9_livingNow 3 (some FieldType.int) 3 64 [.ref (ad Γ.2.2.1 p0)] Λ d (some (.int z)) d := by
  refine Cn.of (own := "SeasonBoundModel") (by decide +kernel) rfl (Nat.le_of_ble_eq_true rfl) ?_
  intro p e s m below meth c C0 hr hlocks hH ls hl
  have hl : lv_has ls 3 [(0, .ref (ad Γ.2.2.1 p0))] := hl
  obtain ⟨hx, hb, hml, hown, hts, hK⟩ := id C0
  unfold f_X9_livingNow at hf
  refine lv_iconst (v := (0 : Int32)) hx hb dX9_livingNow_0 (by decide) ?_
  refine lv_istore_n (lv' := [(1, .int (0 : Int32)), (0, .ref (ad Γ.2.2.1 p0))]) hx hb dX9_livingNow_1 rfl hl (by decide) rfl (fun ls hl => ?_)
  refine lv_iconst (v := (0 : Int32)) hx hb dX9_livingNow_2 (by decide) ?_
  refine lv_istore_n (lv' := [(2, .int (0 : Int32)), (1, .int (0 : Int32)), (0, .ref (ad Γ.2.2.1 p0))]) hx hb dX9_livingNow_3 rfl hl (by decide) rfl (fun ls hl => ?_)
  refine w_X9_livingNow_L4 C0 hr hlocks p0 FU (0 : Int32) (0 : Int32) hf _ _ _ hH (lv_sub hl [2, 1, 0] rfl)
theorem dX9_freeNow_0 : decode cX9_freeNow 0 = .ok (.iconst 0, 1) := by decide +kernel
theorem dX9_freeNow_1 : decode cX9_freeNow 1 = .ok (.istore_n 1, 1) := by decide +kernel
theorem dX9_freeNow_2 : decode cX9_freeNow 2 = .ok (.iconst 0, 1) := by decide +kernel
theorem dX9_freeNow_3 : decode cX9_freeNow 3 = .ok (.istore_n 2, 1) := by decide +kernel
theorem dX9_freeNow_4 : decode cX9_freeNow 4 = .ok (.iload_n 2, 1) := by decide +kernel
theorem dX9_freeNow_5 : decode cX9_freeNow 5 = .ok (.aload_n 0, 1) := by decide +kernel
theorem dX9_freeNow_6 : decode cX9_freeNow 6 = .ok (.getfield 13, 3) := by decide +kernel
theorem dX9_freeNow_9 : decode cX9_freeNow 9 = .ok (.bipush 37, 2) := by decide +kernel
theorem dX9_freeNow_11 : decode cX9_freeNow 11 = .ok (.iaload, 1) := by decide +kernel
theorem dX9_freeNow_12 : decode cX9_freeNow 12 = .ok (.if_icmp .ge 22, 3) := by decide +kernel
theorem dX9_freeNow_15 : decode cX9_freeNow 15 = .ok (.iload_n 1, 1) := by decide +kernel
theorem dX9_freeNow_16 : decode cX9_freeNow 16 = .ok (.aload_n 0, 1) := by decide +kernel
theorem dX9_freeNow_17 : decode cX9_freeNow 17 = .ok (.iload_n 2, 1) := by decide +kernel
theorem dX9_freeNow_18 : decode cX9_freeNow 18 = .ok (.invokevirtual 139, 3) := by decide +kernel
theorem dX9_freeNow_21 : decode cX9_freeNow 21 = .ok (.invokestatic 146, 3) := by decide +kernel
theorem dX9_freeNow_24 : decode cX9_freeNow 24 = .ok (.iload_n 2, 1) := by decide +kernel
theorem dX9_freeNow_25 : decode cX9_freeNow 25 = .ok (.ishl, 1) := by decide +kernel
theorem dX9_freeNow_26 : decode cX9_freeNow 26 = .ok (.ior, 1) := by decide +kernel
theorem dX9_freeNow_27 : decode cX9_freeNow 27 = .ok (.istore_n 1, 1) := by decide +kernel
theorem dX9_freeNow_28 : decode cX9_freeNow 28 = .ok (.iinc 2 1, 3) := by decide +kernel
theorem dX9_freeNow_31 : decode cX9_freeNow 31 = .ok (.goto (-27), 3) := by decide +kernel
theorem dX9_freeNow_34 : decode cX9_freeNow 34 = .ok (.iload_n 1, 1) := by decide +kernel
theorem dX9_freeNow_35 : decode cX9_freeNow 35 = .ok (.ireturn, 1) := by decide +kernel
def f_X9_freeNow_L4 (Λ : List Ly) (d : Dt) (p0 : Nat) : Nat → Int32 → Int32 → Option Int32
  | 0, _, _ => none
  | n + 1, v1, v2 => Option.bind (rf Λ p0 9 1) fun q1 => if okA Λ q1 1 (37 : Int32) = true then (if (d.1 q1 ((37 : Int32)).toNatClampNeg) ≤ v2 then (some v1) else (if clsAt Λ p0 = some 9 then (Option.bind (f_X9_isFree Λ d p0 v2) fun z5 => f_X9_freeNow_L4 Λ d p0 n (v1 ||| ((f_X9_flag z5) <<< (v2 &&& 31))) (v2 + (1 : Int32))) else none)) else none
def f_X9_freeNow (Λ : List Ly) (d : Dt) (p0 : Nat) : Option Int32 := f_X9_freeNow_L4 Λ d p0 FU (0 : Int32) (0 : Int32)
set_option maxHeartbeats 4000000 in
set_option maxRecDepth 100000 in
theorem w_X9_freeNow_L4 {p : Program} {l : Launch} {e : Env} {s : State} {m : MethodId} {args : Array Value} {below : List Frame} {meth : Method} {c : Code} {Γ : Cx} {Λ : List Ly} {z : Int32} {d : Dt} (C0 : Ct Γ p s m args c cX9_freeNow 3 "SeasonBoundModel") (hr : meth.sig.returnType = (some FieldType.int)) (hlocks : meth.locks = false) (p0 : Nat) :
    ∀ (n : Nat) (v1 : Int32) (v2 : Int32), f_X9_freeNow_L4 Λ d p0 n v1 v2 = some z → ∀ (H : Heap) (locs : List Loc) (ls : Array Slot), Hs Γ Λ d s H locs → lv_has ls 3 [(0, .ref (ad Γ.2.2.1 p0)), (1, .int v1), (2, .int v2)] → W p l e { frames := 2, cells := 0, slots := 0, locals := 43 } s m args below meth c H locs 0 0 (MQ below (QN Γ Λ d (some (.int z))) args s 0 0 (AP Γ)) (F0 m 4 ls []) := by
  obtain ⟨hx, hb, hml, hown, hts, hK⟩ := id C0
  intro n
  induction n with
  | zero =>
    intro v1 v2 hf
    cases hf
  | succ n ih =>
    intro v1 v2 hf H locs ls hH hl
    unfold f_X9_freeNow_L4 at hf
    refine lv_iload_n hx hb dX9_freeNow_4 rfl (lv_at hl 2 rfl) ?_
    refine lv_aload_n hx hb dX9_freeNow_5 rfl (lv_at hl 0 rfl) ?_
    obtain ⟨q1, g1, hf⟩ := ob hf
    refine r_getr C0 hH fl_X9_13 g1 dX9_freeNow_6 ?_
    refine lv_bipush (v := (37 : Int32)) hx hb dX9_freeNow_9 (by decide) ?_
    obtain ⟨g2, hf⟩ := gd hf
    refine r_iald C0 hH g2 dX9_freeNow_11 ?_
    refine lv_icmp_ge (tgt := 34) hx hb dX9_freeNow_12 (by decide) (fun c3 => ?_) (fun c3 => ?_)
    · replace hf := it hf c3
      refine lv_iload_n hx hb dX9_freeNow_34 rfl (lv_at hl 1 rfl) ?_
      obtain rfl := Option.some.inj hf
      exact r_iret (d' := d) C0 hr hlocks hH rfl dX9_freeNow_35
    · replace hf := ie hf c3
      refine lv_iload_n hx hb dX9_freeNow_15 rfl (lv_at hl 1 rfl) ?_
      refine lv_aload_n hx hb dX9_freeNow_16 rfl (lv_at hl 0 rfl) ?_
      refine lv_iload_n hx hb dX9_freeNow_17 rfl (lv_at hl 2 rfl) ?_
      obtain ⟨g4, hf⟩ := gd hf
      obtain ⟨z5, h5, hf⟩ := ob hf
      refine r_callVi (rest := [.int v1]) C0 hH (c_X9_isFree Γ l Λ d p0 v2 z5 h5) cv_X9_139 g4 (by decide) rfl hl.1 rfl (Nat.le_of_ble_eq_true rfl) dX9_freeNow_18 (by decide) (fun H locs hH => ?_)
      refine r_callSi (rest := [.int v1]) C0 hH (c_X9_flag Γ l Λ d z5) cs_X9_146 (by decide) rfl hl.1 rfl (Nat.le_of_ble_eq_true rfl) dX9_freeNow_21 (by decide) (fun H locs hH => ?_)
      refine lv_iload_n hx hb dX9_freeNow_24 rfl (lv_at hl 2 rfl) ?_
      refine lv_ishl hx hb dX9_freeNow_25 ?_
      refine lv_ior hx hb dX9_freeNow_26 ?_
      refine lv_istore_n (lv' := [(1, .int (v1 ||| ((f_X9_flag z5) <<< (v2 &&& 31)))), (0, .ref (ad Γ.2.2.1 p0)), (2, .int v2)]) hx hb dX9_freeNow_27 rfl hl (by decide) rfl (fun ls hl => ?_)
      refine lv_iinc (v := (v2 + (1 : Int32))) (lv' := [(2, .int (v2 + (1 : Int32))), (1, .int (v1 ||| ((f_X9_flag z5) <<< (v2 &&& 31)))), (0, .ref (ad Γ.2.2.1 p0))]) hx hb dX9_freeNow_28 hl (k := 2) rfl (congrArg (fun w => v2 + w) (by decide)) (by decide) rfl (fun ls hl => ?_)
      refine lv_goto (tgt := 4) hx hb dX9_freeNow_31 (by decide) ?_
      exact ih (v1 ||| ((f_X9_flag z5) <<< (v2 &&& 31))) (v2 + (1 : Int32)) hf _ _ _ hH (lv_sub hl [2, 1, 0] rfl)
set_option maxHeartbeats 4000000 in
set_option maxRecDepth 100000 in
theorem c_X9_freeNow (Γ : Cx) (l : Launch) (Λ : List Ly) (d : Dt) (p0 : Nat) (z : Int32) (hf : f_X9_freeNow Λ d p0 = some z) : Cn Γ l yX9_freeNow cX9_freeNow 3 (some FieldType.int) 2 43 [.ref (ad Γ.2.2.1 p0)] Λ d (some (.int z)) d := by
  refine Cn.of (own := "SeasonBoundModel") (by decide +kernel) rfl (Nat.le_of_ble_eq_true rfl) ?_
  intro p e s m below meth c C0 hr hlocks hH ls hl
  have hl : lv_has ls 3 [(0, .ref (ad Γ.2.2.1 p0))] := hl
  obtain ⟨hx, hb, hml, hown, hts, hK⟩ := id C0
  unfold f_X9_freeNow at hf
  refine lv_iconst (v := (0 : Int32)) hx hb dX9_freeNow_0 (by decide) ?_
  refine lv_istore_n (lv' := [(1, .int (0 : Int32)), (0, .ref (ad Γ.2.2.1 p0))]) hx hb dX9_freeNow_1 rfl hl (by decide) rfl (fun ls hl => ?_)
  refine lv_iconst (v := (0 : Int32)) hx hb dX9_freeNow_2 (by decide) ?_
  refine lv_istore_n (lv' := [(2, .int (0 : Int32)), (1, .int (0 : Int32)), (0, .ref (ad Γ.2.2.1 p0))]) hx hb dX9_freeNow_3 rfl hl (by decide) rfl (fun ls hl => ?_)
  refine w_X9_freeNow_L4 C0 hr hlocks p0 FU (0 : Int32) (0 : Int32) hf _ _ _ hH (lv_sub hl [2, 1, 0] rfl)
theorem dX9_sumOf_0 : decode cX9_sumOf 0 = .ok (.iconst 0, 1) := by decide +kernel
theorem dX9_sumOf_1 : decode cX9_sumOf 1 = .ok (.istore_n 2, 1) := by decide +kernel
theorem dX9_sumOf_2 : decode cX9_sumOf 2 = .ok (.iconst 0, 1) := by decide +kernel
theorem dX9_sumOf_3 : decode cX9_sumOf 3 = .ok (.istore_n 3, 1) := by decide +kernel
theorem dX9_sumOf_4 : decode cX9_sumOf 4 = .ok (.iload_n 3, 1) := by decide +kernel
theorem dX9_sumOf_5 : decode cX9_sumOf 5 = .ok (.aload_n 0, 1) := by decide +kernel
theorem dX9_sumOf_6 : decode cX9_sumOf 6 = .ok (.getfield 13, 3) := by decide +kernel
theorem dX9_sumOf_9 : decode cX9_sumOf 9 = .ok (.bipush 37, 2) := by decide +kernel
theorem dX9_sumOf_11 : decode cX9_sumOf 11 = .ok (.iaload, 1) := by decide +kernel
theorem dX9_sumOf_12 : decode cX9_sumOf 12 = .ok (.if_icmp .ge 18, 3) := by decide +kernel
theorem dX9_sumOf_15 : decode cX9_sumOf 15 = .ok (.iload_n 2, 1) := by decide +kernel
theorem dX9_sumOf_16 : decode cX9_sumOf 16 = .ok (.aload_n 0, 1) := by decide +kernel
theorem dX9_sumOf_17 : decode cX9_sumOf 17 = .ok (.iload_n 3, 1) := by decide +kernel
theorem dX9_sumOf_18 : decode cX9_sumOf 18 = .ok (.iload_n 1, 1) := by decide +kernel
theorem dX9_sumOf_19 : decode cX9_sumOf 19 = .ok (.invokevirtual 136, 3) := by decide +kernel
theorem dX9_sumOf_22 : decode cX9_sumOf 22 = .ok (.iadd, 1) := by decide +kernel
theorem dX9_sumOf_23 : decode cX9_sumOf 23 = .ok (.istore_n 2, 1) := by decide +kernel
theorem dX9_sumOf_24 : decode cX9_sumOf 24 = .ok (.iinc 3 1, 3) := by decide +kernel
theorem dX9_sumOf_27 : decode cX9_sumOf 27 = .ok (.goto (-23), 3) := by decide +kernel
theorem dX9_sumOf_30 : decode cX9_sumOf 30 = .ok (.iload_n 2, 1) := by decide +kernel
theorem dX9_sumOf_31 : decode cX9_sumOf 31 = .ok (.ireturn, 1) := by decide +kernel
def f_X9_sumOf_L4 (Λ : List Ly) (d : Dt) (p0 : Nat) (v1 : Int32) : Nat → Int32 → Int32 → Option Int32
  | 0, _, _ => none
  | n + 1, v2, v3 => Option.bind (rf Λ p0 9 1) fun q1 => if okA Λ q1 1 (37 : Int32) = true then (if (d.1 q1 ((37 : Int32)).toNatClampNeg) ≤ v3 then (some v2) else (if clsAt Λ p0 = some 9 then (Option.bind (f_X9_of Λ d p0 v3 v1) fun z5 => f_X9_sumOf_L4 Λ d p0 v1 n (v2 + z5) (v3 + (1 : Int32))) else none)) else none
def f_X9_sumOf (Λ : List Ly) (d : Dt) (p0 : Nat) (v1 : Int32) : Option Int32 := f_X9_sumOf_L4 Λ d p0 v1 FU (0 : Int32) (0 : Int32)
set_option maxHeartbeats 4000000 in
set_option maxRecDepth 100000 in
theorem w_X9_sumOf_L4 {p : Program} {l : Launch} {e : Env} {s : State} {m : MethodId} {args : Array Value} {below : List Frame} {meth : Method} {c : Code} {Γ : Cx} {Λ : List Ly} {z : Int32} {d : Dt} (C0 : Ct Γ p s m args c cX9_sumOf 4 "SeasonBoundModel") (hr : meth.sig.returnType = (some FieldType.int)) (hlocks : meth.locks = false) (p0 : Nat) (v1 : Int32) :
    ∀ (n : Nat) (v2 : Int32) (v3 : Int32), f_X9_sumOf_L4 Λ d p0 v1 n v2 v3 = some z → ∀ (H : Heap) (locs : List Loc) (ls : Array Slot), Hs Γ Λ d s H locs → lv_has ls 4 [(0, .ref (ad Γ.2.2.1 p0)), (1, .int v1), (2, .int v2), (3, .int v3)] → W p l e { frames := 1, cells := 0, slots := 0, locals := 22 } s m args below meth c H locs 0 0 (MQ below (QN Γ Λ d (some (.int z))) args s 0 0 (AP Γ)) (F0 m 4 ls []) := by
  obtain ⟨hx, hb, hml, hown, hts, hK⟩ := id C0
  intro n
  induction n with
  | zero =>
    intro v2 v3 hf
    cases hf
  | succ n ih =>
    intro v2 v3 hf H locs ls hH hl
    unfold f_X9_sumOf_L4 at hf
    refine lv_iload_n hx hb dX9_sumOf_4 rfl (lv_at hl 3 rfl) ?_
    refine lv_aload_n hx hb dX9_sumOf_5 rfl (lv_at hl 0 rfl) ?_
    obtain ⟨q1, g1, hf⟩ := ob hf
    refine r_getr C0 hH fl_X9_13 g1 dX9_sumOf_6 ?_
    refine lv_bipush (v := (37 : Int32)) hx hb dX9_sumOf_9 (by decide) ?_
    obtain ⟨g2, hf⟩ := gd hf
    refine r_iald C0 hH g2 dX9_sumOf_11 ?_
    refine lv_icmp_ge (tgt := 30) hx hb dX9_sumOf_12 (by decide) (fun c3 => ?_) (fun c3 => ?_)
    · replace hf := it hf c3
      refine lv_iload_n hx hb dX9_sumOf_30 rfl (lv_at hl 2 rfl) ?_
      obtain rfl := Option.some.inj hf
      exact r_iret (d' := d) C0 hr hlocks hH rfl dX9_sumOf_31
    · replace hf := ie hf c3
      refine lv_iload_n hx hb dX9_sumOf_15 rfl (lv_at hl 2 rfl) ?_
      refine lv_aload_n hx hb dX9_sumOf_16 rfl (lv_at hl 0 rfl) ?_
      refine lv_iload_n hx hb dX9_sumOf_17 rfl (lv_at hl 3 rfl) ?_
      refine lv_iload_n hx hb dX9_sumOf_18 rfl (lv_at hl 1 rfl) ?_
      obtain ⟨g4, hf⟩ := gd hf
      obtain ⟨z5, h5, hf⟩ := ob hf
      refine r_callVi (rest := [.int v2]) C0 hH (c_X9_of Γ l Λ d p0 v3 v1 z5 h5) cv_X9_136 g4 (by decide) rfl hl.1 rfl (Nat.le_of_ble_eq_true rfl) dX9_sumOf_19 (by decide) (fun H locs hH => ?_)
      refine lv_iadd hx hb dX9_sumOf_22 ?_
      refine lv_istore_n (lv' := [(2, .int (v2 + z5)), (0, .ref (ad Γ.2.2.1 p0)), (1, .int v1), (3, .int v3)]) hx hb dX9_sumOf_23 rfl hl (by decide) rfl (fun ls hl => ?_)
      refine lv_iinc (v := (v3 + (1 : Int32))) (lv' := [(3, .int (v3 + (1 : Int32))), (2, .int (v2 + z5)), (0, .ref (ad Γ.2.2.1 p0)), (1, .int v1)]) hx hb dX9_sumOf_24 hl (k := 3) rfl (congrArg (fun w => v3 + w) (by decide)) (by decide) rfl (fun ls hl => ?_)
      refine lv_goto (tgt := 4) hx hb dX9_sumOf_27 (by decide) ?_
      exact ih (v2 + z5) (v3 + (1 : Int32)) hf _ _ _ hH (lv_sub hl [2, 3, 1, 0] rfl)
set_option maxHeartbeats 4000000 in
set_option maxRecDepth 100000 in
theorem c_X9_sumOf (Γ : Cx) (l : Launch) (Λ : List Ly) (d : Dt) (p0 : Nat) (v1 : Int32) (z : Int32) (hf : f_X9_sumOf Λ d p0 v1 = some z) : Cn Γ l yX9_sumOf cX9_sumOf 4 (some FieldType.int) 1 22 [.ref (ad Γ.2.2.1 p0), .int v1] Λ d (some (.int z)) d := by
  refine Cn.of (own := "SeasonBoundModel") (by decide +kernel) rfl (Nat.le_of_ble_eq_true rfl) ?_
  intro p e s m below meth c C0 hr hlocks hH ls hl
  have hl : lv_has ls 4 [(0, .ref (ad Γ.2.2.1 p0)), (1, .int v1)] := hl
  obtain ⟨hx, hb, hml, hown, hts, hK⟩ := id C0
  unfold f_X9_sumOf at hf
  refine lv_iconst (v := (0 : Int32)) hx hb dX9_sumOf_0 (by decide) ?_
  refine lv_istore_n (lv' := [(2, .int (0 : Int32)), (0, .ref (ad Γ.2.2.1 p0)), (1, .int v1)]) hx hb dX9_sumOf_1 rfl hl (by decide) rfl (fun ls hl => ?_)
  refine lv_iconst (v := (0 : Int32)) hx hb dX9_sumOf_2 (by decide) ?_
  refine lv_istore_n (lv' := [(3, .int (0 : Int32)), (2, .int (0 : Int32)), (0, .ref (ad Γ.2.2.1 p0)), (1, .int v1)]) hx hb dX9_sumOf_3 rfl hl (by decide) rfl (fun ls hl => ?_)
  refine w_X9_sumOf_L4 C0 hr hlocks p0 v1 FU (0 : Int32) (0 : Int32) hf _ _ _ hH (lv_sub hl [2, 3, 1, 0] rfl)
theorem dX9_childGoes_0 : decode cX9_childGoes 0 = .ok (.aload_n 0, 1) := by decide +kernel
theorem dX9_childGoes_1 : decode cX9_childGoes 1 = .ok (.iload_n 1, 1) := by decide +kernel
theorem dX9_childGoes_2 : decode cX9_childGoes 2 = .ok (.iconst 4, 1) := by decide +kernel
theorem dX9_childGoes_3 : decode cX9_childGoes 3 = .ok (.sipush 999, 3) := by decide +kernel
theorem dX9_childGoes_6 : decode cX9_childGoes 6 = .ok (.aload_n 0, 1) := by decide +kernel
theorem dX9_childGoes_7 : decode cX9_childGoes 7 = .ok (.iload_n 1, 1) := by decide +kernel
theorem dX9_childGoes_8 : decode cX9_childGoes 8 = .ok (.iconst 4, 1) := by decide +kernel
theorem dX9_childGoes_9 : decode cX9_childGoes 9 = .ok (.invokevirtual 136, 3) := by decide +kernel
theorem dX9_childGoes_12 : decode cX9_childGoes 12 = .ok (.iconst 1, 1) := by decide +kernel
theorem dX9_childGoes_13 : decode cX9_childGoes 13 = .ok (.iadd, 1) := by decide +kernel
theorem dX9_childGoes_14 : decode cX9_childGoes 14 = .ok (.invokestatic 150, 3) := by decide +kernel
theorem dX9_childGoes_17 : decode cX9_childGoes 17 = .ok (.invokevirtual 153, 3) := by decide +kernel
theorem dX9_childGoes_20 : decode cX9_childGoes 20 = .ok (.aload_n 0, 1) := by decide +kernel
theorem dX9_childGoes_21 : decode cX9_childGoes 21 = .ok (.iload_n 1, 1) := by decide +kernel
theorem dX9_childGoes_22 : decode cX9_childGoes 22 = .ok (.invokevirtual 139, 3) := by decide +kernel
theorem dX9_childGoes_25 : decode cX9_childGoes 25 = .ok (.ifCond .eq 4, 3) := by decide +kernel
theorem dX9_childGoes_28 : decode cX9_childGoes 28 = .ok (.return_, 1) := by decide +kernel
theorem dX9_childGoes_29 : decode cX9_childGoes 29 = .ok (.aload_n 0, 1) := by decide +kernel
theorem dX9_childGoes_30 : decode cX9_childGoes 30 = .ok (.getfield 13, 3) := by decide +kernel
theorem dX9_childGoes_33 : decode cX9_childGoes 33 = .ok (.iconst 3, 1) := by decide +kernel
theorem dX9_childGoes_34 : decode cX9_childGoes 34 = .ok (.aload_n 0, 1) := by decide +kernel
theorem dX9_childGoes_35 : decode cX9_childGoes 35 = .ok (.iload_n 1, 1) := by decide +kernel
theorem dX9_childGoes_36 : decode cX9_childGoes 36 = .ok (.iconst 1, 1) := by decide +kernel
theorem dX9_childGoes_37 : decode cX9_childGoes 37 = .ok (.invokevirtual 136, 3) := by decide +kernel
theorem dX9_childGoes_40 : decode cX9_childGoes 40 = .ok (.imul, 1) := by decide +kernel
theorem dX9_childGoes_41 : decode cX9_childGoes 41 = .ok (.iconst 2, 1) := by decide +kernel
theorem dX9_childGoes_42 : decode cX9_childGoes 42 = .ok (.iadd, 1) := by decide +kernel
theorem dX9_childGoes_43 : decode cX9_childGoes 43 = .ok (.iaload, 1) := by decide +kernel
theorem dX9_childGoes_44 : decode cX9_childGoes 44 = .ok (.istore_n 3, 1) := by decide +kernel
theorem dX9_childGoes_45 : decode cX9_childGoes 45 = .ok (.iload_n 3, 1) := by decide +kernel
theorem dX9_childGoes_46 : decode cX9_childGoes 46 = .ok (.aload_n 0, 1) := by decide +kernel
theorem dX9_childGoes_47 : decode cX9_childGoes 47 = .ok (.iload_n 1, 1) := by decide +kernel
theorem dX9_childGoes_48 : decode cX9_childGoes 48 = .ok (.iconst 3, 1) := by decide +kernel
theorem dX9_childGoes_49 : decode cX9_childGoes 49 = .ok (.invokevirtual 136, 3) := by decide +kernel
theorem dX9_childGoes_52 : decode cX9_childGoes 52 = .ok (.aload_n 0, 1) := by decide +kernel
theorem dX9_childGoes_53 : decode cX9_childGoes 53 = .ok (.iload_n 1, 1) := by decide +kernel
theorem dX9_childGoes_54 : decode cX9_childGoes 54 = .ok (.invokevirtual 157, 3) := by decide +kernel
theorem dX9_childGoes_57 : decode cX9_childGoes 57 = .ok (.iadd, 1) := by decide +kernel
theorem dX9_childGoes_58 : decode cX9_childGoes 58 = .ok (.invokestatic 150, 3) := by decide +kernel
theorem dX9_childGoes_61 : decode cX9_childGoes 61 = .ok (.istore 4, 2) := by decide +kernel
theorem dX9_childGoes_63 : decode cX9_childGoes 63 = .ok (.iload_n 2, 1) := by decide +kernel
theorem dX9_childGoes_64 : decode cX9_childGoes 64 = .ok (.ifCond .ne 22, 3) := by decide +kernel
theorem dX9_childGoes_67 : decode cX9_childGoes 67 = .ok (.iload 4, 2) := by decide +kernel
theorem dX9_childGoes_69 : decode cX9_childGoes 69 = .ok (.aload_n 0, 1) := by decide +kernel
theorem dX9_childGoes_70 : decode cX9_childGoes 70 = .ok (.iload_n 1, 1) := by decide +kernel
theorem dX9_childGoes_71 : decode cX9_childGoes 71 = .ok (.iconst 3, 1) := by decide +kernel
theorem dX9_childGoes_72 : decode cX9_childGoes 72 = .ok (.invokevirtual 136, 3) := by decide +kernel
theorem dX9_childGoes_75 : decode cX9_childGoes 75 = .ok (.if_icmp .le 11, 3) := by decide +kernel
theorem dX9_childGoes_78 : decode cX9_childGoes 78 = .ok (.aload_n 0, 1) := by decide +kernel
theorem dX9_childGoes_79 : decode cX9_childGoes 79 = .ok (.iload_n 1, 1) := by decide +kernel
theorem dX9_childGoes_80 : decode cX9_childGoes 80 = .ok (.iconst 3, 1) := by decide +kernel
theorem dX9_childGoes_81 : decode cX9_childGoes 81 = .ok (.iload 4, 2) := by decide +kernel
theorem dX9_childGoes_83 : decode cX9_childGoes 83 = .ok (.invokevirtual 153, 3) := by decide +kernel
theorem dX9_childGoes_86 : decode cX9_childGoes 86 = .ok (.aload_n 0, 1) := by decide +kernel
theorem dX9_childGoes_87 : decode cX9_childGoes 87 = .ok (.iload_n 1, 1) := by decide +kernel
theorem dX9_childGoes_88 : decode cX9_childGoes 88 = .ok (.iconst 2, 1) := by decide +kernel
theorem dX9_childGoes_89 : decode cX9_childGoes 89 = .ok (.aload_n 0, 1) := by decide +kernel
theorem dX9_childGoes_90 : decode cX9_childGoes 90 = .ok (.iload_n 1, 1) := by decide +kernel
theorem dX9_childGoes_91 : decode cX9_childGoes 91 = .ok (.iconst 2, 1) := by decide +kernel
theorem dX9_childGoes_92 : decode cX9_childGoes 92 = .ok (.invokevirtual 136, 3) := by decide +kernel
theorem dX9_childGoes_95 : decode cX9_childGoes 95 = .ok (.iconst 1, 1) := by decide +kernel
theorem dX9_childGoes_96 : decode cX9_childGoes 96 = .ok (.isub, 1) := by decide +kernel
theorem dX9_childGoes_97 : decode cX9_childGoes 97 = .ok (.invokevirtual 153, 3) := by decide +kernel
theorem dX9_childGoes_100 : decode cX9_childGoes 100 = .ok (.aload_n 0, 1) := by decide +kernel
theorem dX9_childGoes_101 : decode cX9_childGoes 101 = .ok (.iload_n 1, 1) := by decide +kernel
theorem dX9_childGoes_102 : decode cX9_childGoes 102 = .ok (.iconst 2, 1) := by decide +kernel
theorem dX9_childGoes_103 : decode cX9_childGoes 103 = .ok (.invokevirtual 136, 3) := by decide +kernel
theorem dX9_childGoes_106 : decode cX9_childGoes 106 = .ok (.ifCond .ne 11, 3) := by decide +kernel
theorem dX9_childGoes_109 : decode cX9_childGoes 109 = .ok (.aload_n 0, 1) := by decide +kernel
theorem dX9_childGoes_110 : decode cX9_childGoes 110 = .ok (.iload_n 1, 1) := by decide +kernel
theorem dX9_childGoes_111 : decode cX9_childGoes 111 = .ok (.iconst 1, 1) := by decide +kernel
theorem dX9_childGoes_112 : decode cX9_childGoes 112 = .ok (.bipush (-4), 2) := by decide +kernel
theorem dX9_childGoes_114 : decode cX9_childGoes 114 = .ok (.invokevirtual 153, 3) := by decide +kernel
theorem dX9_childGoes_117 : decode cX9_childGoes 117 = .ok (.return_, 1) := by decide +kernel
def f_X9_childGoes_J86 (Λ : List Ly) (d : Dt) (p0 : Nat) (v1 : Int32) : Option Dt := if clsAt Λ p0 = some 9 then (Option.bind (f_X9_of Λ d p0 v1 (2 : Int32)) fun z13 => Option.bind (f_X9_becomesOf Λ d p0 v1 (2 : Int32) (z13 - (1 : Int32))) fun z14 => Option.bind (f_X9_of Λ z14 p0 v1 (2 : Int32)) fun z15 => if z15 = 0 then (Option.bind (f_X9_becomesOf Λ z14 p0 v1 (1 : Int32) (-4 : Int32)) fun z17 => some z17) else (some z14)) else none
def f_X9_childGoes (Λ : List Ly) (d : Dt) (p0 : Nat) (v1 : Int32) (v2 : Int32) : Option Dt := if clsAt Λ p0 = some 9 then (Option.bind (f_X9_of Λ d p0 v1 (4 : Int32)) fun z2 => Option.bind (f_X9_becomesOf Λ d p0 v1 (4 : Int32) (f_X9_lesser (999 : Int32) (z2 + (1 : Int32)))) fun z3 => Option.bind (f_X9_isFree Λ z3 p0 v1) fun z4 => if z4 = 0 then (Option.bind (rf Λ p0 9 1) fun q6 => Option.bind (f_X9_of Λ z3 p0 v1 (1 : Int32)) fun z7 => if okA Λ q6 1 (((3 : Int32) * z7) + (2 : Int32)) = true then (Option.bind (f_X9_of Λ z3 p0 v1 (3 : Int32)) fun z9 => Option.bind (f_X9_learns Λ z3 p0 v1) fun z10 => if v2 = 0 then (Option.bind (f_X9_of Λ z3 p0 v1 (3 : Int32)) fun z18 => if (f_X9_lesser (z3.1 q6 ((((3 : Int32) * z7) + (2 : Int32))).toNatClampNeg) (z9 + z10)) ≤ z18 then (f_X9_childGoes_J86 Λ z3 p0 v1) else (Option.bind (f_X9_becomesOf Λ z3 p0 v1 (3 : Int32) (f_X9_lesser (z3.1 q6 ((((3 : Int32) * z7) + (2 : Int32))).toNatClampNeg) (z9 + z10))) fun z20 => f_X9_childGoes_J86 Λ z20 p0 v1)) else (f_X9_childGoes_J86 Λ z3 p0 v1)) else none) else (some z3)) else none
set_option maxHeartbeats 4000000 in
set_option maxRecDepth 100000 in
theorem w_X9_childGoes_J86 {p : Program} {l : Launch} {e : Env} {s : State} {m : MethodId} {args : Array Value} {below : List Frame} {meth : Method} {c : Code} {Γ : Cx} {Λ : List Ly} {z : Dt} {d : Dt} (C0 : Ct Γ p s m args c cX9_childGoes 5 "SeasonBoundModel") (hr : meth.sig.returnType = none) (hlocks : meth.locks = false) (p0 : Nat) (v1 : Int32)
    (hf : f_X9_childGoes_J86 Λ d p0 v1 = some z) (H : Heap) (locs : List Loc) (ls : Array Slot) (hH : Hs Γ Λ d s H locs) (hl : lv_has ls 5 [(0, .ref (ad Γ.2.2.1 p0)), (1, .int v1)]) : W p l e { frames := 2, cells := 0, slots := 0, locals := 46 } s m args below meth c H locs 0 0 (MQ below (QN Γ Λ z none) args s 0 0 (AP Γ)) (F0 m 86 ls []) := by
  obtain ⟨hx, hb, hml, hown, hts, hK⟩ := id C0
  unfold f_X9_childGoes_J86 at hf
  refine lv_aload_n hx hb dX9_childGoes_86 rfl (lv_at hl 0 rfl) ?_
  refine lv_iload_n hx hb dX9_childGoes_87 rfl (lv_at hl 1 rfl) ?_
  refine lv_iconst (v := (2 : Int32)) hx hb dX9_childGoes_88 (by decide) ?_
  refine lv_aload_n hx hb dX9_childGoes_89 rfl (lv_at hl 0 rfl) ?_
  refine lv_iload_n hx hb dX9_childGoes_90 rfl (lv_at hl 1 rfl) ?_
  refine lv_iconst (v := (2 : Int32)) hx hb dX9_childGoes_91 (by decide) ?_
  obtain ⟨g12, hf⟩ := gd hf
  obtain ⟨z13, h13, hf⟩ := ob hf
  refine r_callVi (rest := [.int (2 : Int32), .int v1, .ref (ad Γ.2.2.1 p0)]) C0 hH (c_X9_of Γ l Λ d p0 v1 (2 : Int32) z13 h13) cv_X9_136 g12 (by decide) rfl hl.1 rfl (Nat.le_of_ble_eq_true rfl) dX9_childGoes_92 (by decide) (fun H locs hH => ?_)
  refine lv_iconst (v := (1 : Int32)) hx hb dX9_childGoes_95 (by decide) ?_
  refine lv_isub hx hb dX9_childGoes_96 ?_
  obtain ⟨z14, h14, hf⟩ := ob hf
  refine r_callVv (rest := []) C0 hH (c_X9_becomesOf Γ l Λ d p0 v1 (2 : Int32) (z13 - (1 : Int32)) z14 h14) cv_X9_153 g12 (by decide) rfl hl.1 rfl (Nat.le_of_ble_eq_true rfl) dX9_childGoes_97 (by decide) (fun H locs hH => ?_)
  refine lv_aload_n hx hb dX9_childGoes_100 rfl (lv_at hl 0 rfl) ?_
  refine lv_iload_n hx hb dX9_childGoes_101 rfl (lv_at hl 1 rfl) ?_
  refine lv_iconst (v := (2 : Int32)) hx hb dX9_childGoes_102 (by decide) ?_
  obtain ⟨z15, h15, hf⟩ := ob hf
  refine r_callVi (rest := []) C0 hH (c_X9_of Γ l Λ z14 p0 v1 (2 : Int32) z15 h15) cv_X9_136 g12 (by decide) rfl hl.1 rfl (Nat.le_of_ble_eq_true rfl) dX9_childGoes_103 (by decide) (fun H locs hH => ?_)
  refine lv_if_ne (tgt := 117) hx hb dX9_childGoes_106 (by decide) (fun c16 => ?_) (fun c16 => ?_)
  · replace hf := ie hf c16
    obtain rfl := Option.some.inj hf
    exact r_vret C0 hr hlocks hH dX9_childGoes_117
  · replace hf := it hf c16
    refine lv_aload_n hx hb dX9_childGoes_109 rfl (lv_at hl 0 rfl) ?_
    refine lv_iload_n hx hb dX9_childGoes_110 rfl (lv_at hl 1 rfl) ?_
    refine lv_iconst (v := (1 : Int32)) hx hb dX9_childGoes_111 (by decide) ?_
    refine lv_bipush (v := (-4 : Int32)) hx hb dX9_childGoes_112 (by decide) ?_
    obtain ⟨z17, h17, hf⟩ := ob hf
    refine r_callVv (rest := []) C0 hH (c_X9_becomesOf Γ l Λ z14 p0 v1 (1 : Int32) (-4 : Int32) z17 h17) cv_X9_153 g12 (by decide) rfl hl.1 rfl (Nat.le_of_ble_eq_true rfl) dX9_childGoes_114 (by decide) (fun H locs hH => ?_)
    obtain rfl := Option.some.inj hf
    exact r_vret C0 hr hlocks hH dX9_childGoes_117
set_option maxHeartbeats 4000000 in
set_option maxRecDepth 100000 in
theorem c_X9_childGoes (Γ : Cx) (l : Launch) (Λ : List Ly) (d : Dt) (p0 : Nat) (v1 : Int32) (v2 : Int32) (z : Dt) (hf : f_X9_childGoes Λ d p0 v1 v2 = some z) : Cn Γ l yX9_childGoes cX9_childGoes 5 none 2 46 [.ref (ad Γ.2.2.1 p0), .int v1, .int v2] Λ d none z := by
  refine Cn.of (own := "SeasonBoundModel") (by decide +kernel) rfl (Nat.le_of_ble_eq_true rfl) ?_
  intro p e s m below meth c C0 hr hlocks hH ls hl
  have hl : lv_has ls 5 [(0, .ref (ad Γ.2.2.1 p0)), (1, .int v1), (2, .int v2)] := hl
  obtain ⟨hx, hb, hml, hown, hts, hK⟩ := id C0
  unfold f_X9_childGoes at hf
  refine lv_aload_n hx hb dX9_childGoes_0 rfl (lv_at hl 0 rfl) ?_
  refine lv_iload_n hx hb dX9_childGoes_1 rfl (lv_at hl 1 rfl) ?_
  refine lv_iconst (v := (4 : Int32)) hx hb dX9_childGoes_2 (by decide) ?_
  refine lv_sipush (v := (999 : Int32)) hx hb dX9_childGoes_3 (by decide) ?_
  refine lv_aload_n hx hb dX9_childGoes_6 rfl (lv_at hl 0 rfl) ?_
  refine lv_iload_n hx hb dX9_childGoes_7 rfl (lv_at hl 1 rfl) ?_
  refine lv_iconst (v := (4 : Int32)) hx hb dX9_childGoes_8 (by decide) ?_
  obtain ⟨g1, hf⟩ := gd hf
  obtain ⟨z2, h2, hf⟩ := ob hf
  refine r_callVi (rest := [.int (999 : Int32), .int (4 : Int32), .int v1, .ref (ad Γ.2.2.1 p0)]) C0 hH (c_X9_of Γ l Λ d p0 v1 (4 : Int32) z2 h2) cv_X9_136 g1 (by decide) rfl hl.1 rfl (Nat.le_of_ble_eq_true rfl) dX9_childGoes_9 (by decide) (fun H locs hH => ?_)
  refine lv_iconst (v := (1 : Int32)) hx hb dX9_childGoes_12 (by decide) ?_
  refine lv_iadd hx hb dX9_childGoes_13 ?_
  refine r_callSi (rest := [.int (4 : Int32), .int v1, .ref (ad Γ.2.2.1 p0)]) C0 hH (c_X9_lesser Γ l Λ d (999 : Int32) (z2 + (1 : Int32))) cs_X9_150 (by decide) rfl hl.1 rfl (Nat.le_of_ble_eq_true rfl) dX9_childGoes_14 (by decide) (fun H locs hH => ?_)
  obtain ⟨z3, h3, hf⟩ := ob hf
  refine r_callVv (rest := []) C0 hH (c_X9_becomesOf Γ l Λ d p0 v1 (4 : Int32) (f_X9_lesser (999 : Int32) (z2 + (1 : Int32))) z3 h3) cv_X9_153 g1 (by decide) rfl hl.1 rfl (Nat.le_of_ble_eq_true rfl) dX9_childGoes_17 (by decide) (fun H locs hH => ?_)
  refine lv_aload_n hx hb dX9_childGoes_20 rfl (lv_at hl 0 rfl) ?_
  refine lv_iload_n hx hb dX9_childGoes_21 rfl (lv_at hl 1 rfl) ?_
  obtain ⟨z4, h4, hf⟩ := ob hf
  refine r_callVi (rest := []) C0 hH (c_X9_isFree Γ l Λ z3 p0 v1 z4 h4) cv_X9_139 g1 (by decide) rfl hl.1 rfl (Nat.le_of_ble_eq_true rfl) dX9_childGoes_22 (by decide) (fun H locs hH => ?_)
  refine lv_if_eq (tgt := 29) hx hb dX9_childGoes_25 (by decide) (fun c5 => ?_) (fun c5 => ?_)
  · replace hf := it hf c5
    refine lv_aload_n hx hb dX9_childGoes_29 rfl (lv_at hl 0 rfl) ?_
    obtain ⟨q6, g6, hf⟩ := ob hf
    refine r_getr C0 hH fl_X9_13 g6 dX9_childGoes_30 ?_
    refine lv_iconst (v := (3 : Int32)) hx hb dX9_childGoes_33 (by decide) ?_
    refine lv_aload_n hx hb dX9_childGoes_34 rfl (lv_at hl 0 rfl) ?_
    refine lv_iload_n hx hb dX9_childGoes_35 rfl (lv_at hl 1 rfl) ?_
    refine lv_iconst (v := (1 : Int32)) hx hb dX9_childGoes_36 (by decide) ?_
    obtain ⟨z7, h7, hf⟩ := ob hf
    refine r_callVi (rest := [.int (3 : Int32), .ref (ad Γ.2.2.1 q6)]) C0 hH (c_X9_of Γ l Λ z3 p0 v1 (1 : Int32) z7 h7) cv_X9_136 g1 (by decide) rfl hl.1 rfl (Nat.le_of_ble_eq_true rfl) dX9_childGoes_37 (by decide) (fun H locs hH => ?_)
    refine lv_imul hx hb dX9_childGoes_40 ?_
    refine lv_iconst (v := (2 : Int32)) hx hb dX9_childGoes_41 (by decide) ?_
    refine lv_iadd hx hb dX9_childGoes_42 ?_
    obtain ⟨g8, hf⟩ := gd hf
    refine r_iald C0 hH g8 dX9_childGoes_43 ?_
    refine lv_istore_n (lv' := [(3, .int (z3.1 q6 ((((3 : Int32) * z7) + (2 : Int32))).toNatClampNeg)), (0, .ref (ad Γ.2.2.1 p0)), (1, .int v1), (2, .int v2)]) hx hb dX9_childGoes_44 rfl hl (by decide) rfl (fun ls hl => ?_)
    refine lv_iload_n hx hb dX9_childGoes_45 rfl (lv_at hl 0 rfl) ?_
    refine lv_aload_n hx hb dX9_childGoes_46 rfl (lv_at hl 1 rfl) ?_
    refine lv_iload_n hx hb dX9_childGoes_47 rfl (lv_at hl 2 rfl) ?_
    refine lv_iconst (v := (3 : Int32)) hx hb dX9_childGoes_48 (by decide) ?_
    obtain ⟨z9, h9, hf⟩ := ob hf
    refine r_callVi (rest := [.int (z3.1 q6 ((((3 : Int32) * z7) + (2 : Int32))).toNatClampNeg)]) C0 hH (c_X9_of Γ l Λ z3 p0 v1 (3 : Int32) z9 h9) cv_X9_136 g1 (by decide) rfl hl.1 rfl (Nat.le_of_ble_eq_true rfl) dX9_childGoes_49 (by decide) (fun H locs hH => ?_)
    refine lv_aload_n hx hb dX9_childGoes_52 rfl (lv_at hl 1 rfl) ?_
    refine lv_iload_n hx hb dX9_childGoes_53 rfl (lv_at hl 2 rfl) ?_
    obtain ⟨z10, h10, hf⟩ := ob hf
    refine r_callVi (rest := [.int z9, .int (z3.1 q6 ((((3 : Int32) * z7) + (2 : Int32))).toNatClampNeg)]) C0 hH (c_X9_learns Γ l Λ z3 p0 v1 z10 h10) cv_X9_157 g1 (by decide) rfl hl.1 rfl (Nat.le_of_ble_eq_true rfl) dX9_childGoes_54 (by decide) (fun H locs hH => ?_)
    refine lv_iadd hx hb dX9_childGoes_57 ?_
    refine r_callSi (rest := []) C0 hH (c_X9_lesser Γ l Λ z3 (z3.1 q6 ((((3 : Int32) * z7) + (2 : Int32))).toNatClampNeg) (z9 + z10)) cs_X9_150 (by decide) rfl hl.1 rfl (Nat.le_of_ble_eq_true rfl) dX9_childGoes_58 (by decide) (fun H locs hH => ?_)
    refine lv_istore (lv' := [(4, .int (f_X9_lesser (z3.1 q6 ((((3 : Int32) * z7) + (2 : Int32))).toNatClampNeg) (z9 + z10))), (3, .int (z3.1 q6 ((((3 : Int32) * z7) + (2 : Int32))).toNatClampNeg)), (0, .ref (ad Γ.2.2.1 p0)), (1, .int v1), (2, .int v2)]) hx hb dX9_childGoes_61 hl (by decide) rfl (fun ls hl => ?_)
    refine lv_iload_n hx hb dX9_childGoes_63 rfl (lv_at hl 4 rfl) ?_
    refine lv_if_ne (tgt := 86) hx hb dX9_childGoes_64 (by decide) (fun c11 => ?_) (fun c11 => ?_)
    · replace hf := ie hf c11
      exact w_X9_childGoes_J86 C0 hr hlocks p0 v1 hf _ _ _ hH (lv_sub hl [2, 3] rfl)
    · replace hf := it hf c11
      refine lv_iload hx hb dX9_childGoes_67 (lv_at hl 0 rfl) ?_
      refine lv_aload_n hx hb dX9_childGoes_69 rfl (lv_at hl 2 rfl) ?_
      refine lv_iload_n hx hb dX9_childGoes_70 rfl (lv_at hl 3 rfl) ?_
      refine lv_iconst (v := (3 : Int32)) hx hb dX9_childGoes_71 (by decide) ?_
      obtain ⟨z18, h18, hf⟩ := ob hf
      refine r_callVi (rest := [.int (f_X9_lesser (z3.1 q6 ((((3 : Int32) * z7) + (2 : Int32))).toNatClampNeg) (z9 + z10))]) C0 hH (c_X9_of Γ l Λ z3 p0 v1 (3 : Int32) z18 h18) cv_X9_136 g1 (by decide) rfl hl.1 rfl (Nat.le_of_ble_eq_true rfl) dX9_childGoes_72 (by decide) (fun H locs hH => ?_)
      refine lv_icmp_le (tgt := 86) hx hb dX9_childGoes_75 (by decide) (fun c19 => ?_) (fun c19 => ?_)
      · replace hf := it hf c19
        exact w_X9_childGoes_J86 C0 hr hlocks p0 v1 hf _ _ _ hH (lv_sub hl [2, 3] rfl)
      · replace hf := ie hf c19
        refine lv_aload_n hx hb dX9_childGoes_78 rfl (lv_at hl 2 rfl) ?_
        refine lv_iload_n hx hb dX9_childGoes_79 rfl (lv_at hl 3 rfl) ?_
        refine lv_iconst (v := (3 : Int32)) hx hb dX9_childGoes_80 (by decide) ?_
        refine lv_iload hx hb dX9_childGoes_81 (lv_at hl 0 rfl) ?_
        obtain ⟨z20, h20, hf⟩ := ob hf
        refine r_callVv (rest := []) C0 hH (c_X9_becomesOf Γ l Λ z3 p0 v1 (3 : Int32) (f_X9_lesser (z3.1 q6 ((((3 : Int32) * z7) + (2 : Int32))).toNatClampNeg) (z9 + z10)) z20 h20) cv_X9_153 g1 (by decide) rfl hl.1 rfl (Nat.le_of_ble_eq_true rfl) dX9_childGoes_83 (by decide) (fun H locs hH => ?_)
        exact w_X9_childGoes_J86 C0 hr hlocks p0 v1 hf _ _ _ hH (lv_sub hl [2, 3] rfl)
  · replace hf := ie hf c5
    obtain rfl := Option.some.inj hf
    exact r_vret C0 hr hlocks hH dX9_childGoes_28
