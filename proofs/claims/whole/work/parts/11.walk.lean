theorem dX7_has_0 : decode cX7_has 0 = .ok (.iload_n 1, 1) := by decide +kernel
theorem dX7_has_1 : decode cX7_has 1 = .ok (.iconst 0, 1) := by decide +kernel
theorem dX7_has_2 : decode cX7_has 2 = .ok (.aload_n 0, 1) := by decide +kernel
theorem dX7_has_3 : decode cX7_has 3 = .ok (.getfield 39, 3) := by decide +kernel
theorem dX7_has_6 : decode cX7_has 6 = .ok (.iconst 1, 1) := by decide +kernel
theorem dX7_has_7 : decode cX7_has 7 = .ok (.isub, 1) := by decide +kernel
theorem dX7_has_8 : decode cX7_has 8 = .ok (.invokestatic 68, 3) := by decide +kernel
theorem dX7_has_11 : decode cX7_has 11 = .ok (.ireturn, 1) := by decide +kernel
def f_X7_has (Λ : List Ly) (d : Dt) (p0 : Nat) (v1 : Int32) : Option Int32 := if clsAt Λ p0 = some 7 then (some (f_X8_within v1 (0 : Int32) ((d.1 p0 2) - (1 : Int32)))) else none
set_option maxHeartbeats 4000000 in
set_option maxRecDepth 100000 in
theorem c_X7_has (Γ : Cx) (l : Launch) (Λ : List Ly) (d : Dt) (p0 : Nat) (v1 : Int32) (z : Int32) (hf : f_X7_has Λ d p0 v1 = some z) : Cn Γ l yX7_has cX7_has 2 (some FieldType.boolean) 1 22 [.ref (ad Γ.2.2.1 p0), .int v1] Λ d (some (.int z)) d := by
  refine Cn.of (own := "SeasonBound$World") (by decide +kernel) rfl (Nat.le_of_ble_eq_true rfl) ?_
  intro p e s m below meth c C0 hr hlocks hH ls hl
  have hl : lv_has ls 2 [(0, .ref (ad Γ.2.2.1 p0)), (1, .int v1)] := hl
  obtain ⟨hx, hb, hml, hown, hts, hK⟩ := id C0
  unfold f_X7_has at hf
  refine lv_iload_n hx hb dX7_has_0 rfl (lv_at hl 1 rfl) ?_
  refine lv_iconst (v := (0 : Int32)) hx hb dX7_has_1 (by decide) ?_
  refine lv_aload_n hx hb dX7_has_2 rfl (lv_at hl 0 rfl) ?_
  obtain ⟨g1, hf⟩ := gd hf
  refine r_geti C0 hH fl_X7_39 g1 rfl dX7_has_3 ?_
  refine lv_iconst (v := (1 : Int32)) hx hb dX7_has_6 (by decide) ?_
  refine lv_isub hx hb dX7_has_7 ?_
  refine r_callNi (rest := []) C0 hH (c_X8_within Γ l Λ d v1 (0 : Int32) ((d.1 p0 2) - (1 : Int32))) cn_X7_68 (by decide) rfl hl.1 rfl (Nat.le_of_ble_eq_true rfl) dX7_has_8 (by decide) (fun H locs hH => ?_)
  obtain rfl := Option.some.inj hf
  exact r_iret (d' := d) C0 hr hlocks hH (nz (bo_X8_within _ _ _)) dX7_has_11
theorem dX7_boundTo_0 : decode cX7_boundTo 0 = .ok (.iconst 0, 1) := by decide +kernel
theorem dX7_boundTo_1 : decode cX7_boundTo 1 = .ok (.istore_n 2, 1) := by decide +kernel
theorem dX7_boundTo_2 : decode cX7_boundTo 2 = .ok (.iconst 0, 1) := by decide +kernel
theorem dX7_boundTo_3 : decode cX7_boundTo 3 = .ok (.istore_n 3, 1) := by decide +kernel
theorem dX7_boundTo_4 : decode cX7_boundTo 4 = .ok (.iload_n 3, 1) := by decide +kernel
theorem dX7_boundTo_5 : decode cX7_boundTo 5 = .ok (.aload_n 0, 1) := by decide +kernel
theorem dX7_boundTo_6 : decode cX7_boundTo 6 = .ok (.getfield 39, 3) := by decide +kernel
theorem dX7_boundTo_9 : decode cX7_boundTo 9 = .ok (.if_icmp .ge 28, 3) := by decide +kernel
theorem dX7_boundTo_12 : decode cX7_boundTo 12 = .ok (.aload_n 0, 1) := by decide +kernel
theorem dX7_boundTo_13 : decode cX7_boundTo 13 = .ok (.getfield 19, 3) := by decide +kernel
theorem dX7_boundTo_16 : decode cX7_boundTo 16 = .ok (.iload_n 3, 1) := by decide +kernel
theorem dX7_boundTo_17 : decode cX7_boundTo 17 = .ok (.aaload, 1) := by decide +kernel
theorem dX7_boundTo_18 : decode cX7_boundTo 18 = .ok (.iload_n 1, 1) := by decide +kernel
theorem dX7_boundTo_19 : decode cX7_boundTo 19 = .ok (.invokevirtual 142, 3) := by decide +kernel
theorem dX7_boundTo_22 : decode cX7_boundTo 22 = .ok (.ifCond .eq 9, 3) := by decide +kernel
theorem dX7_boundTo_25 : decode cX7_boundTo 25 = .ok (.iload_n 2, 1) := by decide +kernel
theorem dX7_boundTo_26 : decode cX7_boundTo 26 = .ok (.iconst 1, 1) := by decide +kernel
theorem dX7_boundTo_27 : decode cX7_boundTo 27 = .ok (.iload_n 3, 1) := by decide +kernel
theorem dX7_boundTo_28 : decode cX7_boundTo 28 = .ok (.ishl, 1) := by decide +kernel
theorem dX7_boundTo_29 : decode cX7_boundTo 29 = .ok (.ior, 1) := by decide +kernel
theorem dX7_boundTo_30 : decode cX7_boundTo 30 = .ok (.istore_n 2, 1) := by decide +kernel
theorem dX7_boundTo_31 : decode cX7_boundTo 31 = .ok (.iinc 3 1, 3) := by decide +kernel
theorem dX7_boundTo_34 : decode cX7_boundTo 34 = .ok (.goto (-30), 3) := by decide +kernel
theorem dX7_boundTo_37 : decode cX7_boundTo 37 = .ok (.iload_n 2, 1) := by decide +kernel
theorem dX7_boundTo_38 : decode cX7_boundTo 38 = .ok (.ireturn, 1) := by decide +kernel
def f_X7_boundTo_L4 (Λ : List Ly) (d : Dt) (p0 : Nat) (v1 : Int32) : Nat → Int32 → Int32 → Option Int32
  | 0, _, _ => none
  | n + 1, v2, v3 => if clsAt Λ p0 = some 7 then (if (d.1 p0 2) ≤ v3 then (some v2) else (Option.bind (rf Λ p0 7 1) fun q3 => Option.bind (ra Λ q3 4 v3) fun q4 => if clsAt Λ q4 = some 1 then (Option.bind (f_X1_isBoundTo Λ d q4 v1) fun z6 => if z6 = 0 then (f_X7_boundTo_L4 Λ d p0 v1 n v2 (v3 + (1 : Int32))) else (f_X7_boundTo_L4 Λ d p0 v1 n (v2 ||| ((1 : Int32) <<< (v3 &&& 31))) (v3 + (1 : Int32)))) else none)) else none
def f_X7_boundTo (Λ : List Ly) (d : Dt) (p0 : Nat) (v1 : Int32) : Option Int32 := f_X7_boundTo_L4 Λ d p0 v1 FU (0 : Int32) (0 : Int32)
set_option maxHeartbeats 4000000 in
set_option maxRecDepth 100000 in
theorem w_X7_boundTo_L4 {p : Program} {l : Launch} {e : Env} {s : State} {m : MethodId} {args : Array Value} {below : List Frame} {meth : Method} {c : Code} {Γ : Cx} {Λ : List Ly} {z : Int32} {d : Dt} (C0 : Ct Γ p s m args c cX7_boundTo 4 "SeasonBound$World") (hr : meth.sig.returnType = (some FieldType.int)) (hlocks : meth.locks = false) (p0 : Nat) (v1 : Int32) :
    ∀ (n : Nat) (v2 : Int32) (v3 : Int32), f_X7_boundTo_L4 Λ d p0 v1 n v2 v3 = some z → ∀ (H : Heap) (locs : List Loc) (ls : Array Slot), Hs Γ Λ d s H locs → lv_has ls 4 [(0, .ref (ad Γ.2.2.1 p0)), (1, .int v1), (2, .int v2), (3, .int v3)] → W p l e { frames := 1, cells := 0, slots := 0, locals := 21 } s m args below meth c H locs 0 0 (MQ below (QN Γ Λ d (some (.int z))) args s 0 0 (AP Γ)) (F0 m 4 ls []) := by
  obtain ⟨hx, hb, hml, hown, hts, hK⟩ := id C0
  intro n
  induction n with
  | zero =>
    intro v2 v3 hf
    cases hf
  | succ n ih =>
    intro v2 v3 hf H locs ls hH hl
    unfold f_X7_boundTo_L4 at hf
    refine lv_iload_n hx hb dX7_boundTo_4 rfl (lv_at hl 3 rfl) ?_
    refine lv_aload_n hx hb dX7_boundTo_5 rfl (lv_at hl 0 rfl) ?_
    obtain ⟨g1, hf⟩ := gd hf
    refine r_geti C0 hH fl_X7_39 g1 rfl dX7_boundTo_6 ?_
    refine lv_icmp_ge (tgt := 37) hx hb dX7_boundTo_9 (by decide) (fun c2 => ?_) (fun c2 => ?_)
    · replace hf := it hf c2
      refine lv_iload_n hx hb dX7_boundTo_37 rfl (lv_at hl 2 rfl) ?_
      obtain rfl := Option.some.inj hf
      exact r_iret (d' := d) C0 hr hlocks hH rfl dX7_boundTo_38
    · replace hf := ie hf c2
      refine lv_aload_n hx hb dX7_boundTo_12 rfl (lv_at hl 0 rfl) ?_
      obtain ⟨q3, g3, hf⟩ := ob hf
      refine r_getr C0 hH fl_X7_19 g3 dX7_boundTo_13 ?_
      refine lv_iload_n hx hb dX7_boundTo_16 rfl (lv_at hl 3 rfl) ?_
      obtain ⟨q4, g4, hf⟩ := ob hf
      refine r_aald (C := "SeasonBound$Child") C0 hH g4 (by decide) rfl dX7_boundTo_17 ?_
      refine lv_iload_n hx hb dX7_boundTo_18 rfl (lv_at hl 1 rfl) ?_
      obtain ⟨g5, hf⟩ := gd hf
      obtain ⟨z6, h6, hf⟩ := ob hf
      refine r_callVi (rest := []) C0 hH (c_X1_isBoundTo Γ l Λ d q4 v1 z6 h6) cv_X7_142 g5 (by decide) rfl hl.1 rfl (Nat.le_of_ble_eq_true rfl) dX7_boundTo_19 (by decide) (fun H locs hH => ?_)
      refine lv_if_eq (tgt := 31) hx hb dX7_boundTo_22 (by decide) (fun c7 => ?_) (fun c7 => ?_)
      · replace hf := it hf c7
        refine lv_iinc (v := (v3 + (1 : Int32))) (lv' := [(3, .int (v3 + (1 : Int32))), (0, .ref (ad Γ.2.2.1 p0)), (1, .int v1), (2, .int v2)]) hx hb dX7_boundTo_31 hl (k := 3) rfl (congrArg (fun w => v3 + w) (by decide)) (by decide) rfl (fun ls hl => ?_)
        refine lv_goto (tgt := 4) hx hb dX7_boundTo_34 (by decide) ?_
        exact ih v2 (v3 + (1 : Int32)) hf _ _ _ hH (lv_sub hl [1, 2, 3, 0] rfl)
      · replace hf := ie hf c7
        refine lv_iload_n hx hb dX7_boundTo_25 rfl (lv_at hl 2 rfl) ?_
        refine lv_iconst (v := (1 : Int32)) hx hb dX7_boundTo_26 (by decide) ?_
        refine lv_iload_n hx hb dX7_boundTo_27 rfl (lv_at hl 3 rfl) ?_
        refine lv_ishl hx hb dX7_boundTo_28 ?_
        refine lv_ior hx hb dX7_boundTo_29 ?_
        refine lv_istore_n (lv' := [(2, .int (v2 ||| ((1 : Int32) <<< (v3 &&& 31)))), (0, .ref (ad Γ.2.2.1 p0)), (1, .int v1), (3, .int v3)]) hx hb dX7_boundTo_30 rfl hl (by decide) rfl (fun ls hl => ?_)
        refine lv_iinc (v := (v3 + (1 : Int32))) (lv' := [(3, .int (v3 + (1 : Int32))), (2, .int (v2 ||| ((1 : Int32) <<< (v3 &&& 31)))), (0, .ref (ad Γ.2.2.1 p0)), (1, .int v1)]) hx hb dX7_boundTo_31 hl (k := 3) rfl (congrArg (fun w => v3 + w) (by decide)) (by decide) rfl (fun ls hl => ?_)
        refine lv_goto (tgt := 4) hx hb dX7_boundTo_34 (by decide) ?_
        exact ih (v2 ||| ((1 : Int32) <<< (v3 &&& 31))) (v3 + (1 : Int32)) hf _ _ _ hH (lv_sub hl [2, 3, 1, 0] rfl)
set_option maxHeartbeats 4000000 in
set_option maxRecDepth 100000 in
theorem c_X7_boundTo (Γ : Cx) (l : Launch) (Λ : List Ly) (d : Dt) (p0 : Nat) (v1 : Int32) (z : Int32) (hf : f_X7_boundTo Λ d p0 v1 = some z) : Cn Γ l yX7_boundTo cX7_boundTo 4 (some FieldType.int) 1 21 [.ref (ad Γ.2.2.1 p0), .int v1] Λ d (some (.int z)) d := by
  refine Cn.of (own := "SeasonBound$World") (by decide +kernel) rfl (Nat.le_of_ble_eq_true rfl) ?_
  intro p e s m below meth c C0 hr hlocks hH ls hl
  have hl : lv_has ls 4 [(0, .ref (ad Γ.2.2.1 p0)), (1, .int v1)] := hl
  obtain ⟨hx, hb, hml, hown, hts, hK⟩ := id C0
  unfold f_X7_boundTo at hf
  refine lv_iconst (v := (0 : Int32)) hx hb dX7_boundTo_0 (by decide) ?_
  refine lv_istore_n (lv' := [(2, .int (0 : Int32)), (0, .ref (ad Γ.2.2.1 p0)), (1, .int v1)]) hx hb dX7_boundTo_1 rfl hl (by decide) rfl (fun ls hl => ?_)
  refine lv_iconst (v := (0 : Int32)) hx hb dX7_boundTo_2 (by decide) ?_
  refine lv_istore_n (lv' := [(3, .int (0 : Int32)), (2, .int (0 : Int32)), (0, .ref (ad Γ.2.2.1 p0)), (1, .int v1)]) hx hb dX7_boundTo_3 rfl hl (by decide) rfl (fun ls hl => ?_)
  refine w_X7_boundTo_L4 C0 hr hlocks p0 v1 FU (0 : Int32) (0 : Int32) hf _ _ _ hH (lv_sub hl [2, 3, 1, 0] rfl)
theorem dJ6_bitCount_0f7a4_0 : decode cJ6_bitCount_0f7a4 0 = .ok (.iload_n 0, 1) := by decide +kernel
theorem dJ6_bitCount_0f7a4_1 : decode cJ6_bitCount_0f7a4 1 = .ok (.iload_n 0, 1) := by decide +kernel
theorem dJ6_bitCount_0f7a4_2 : decode cJ6_bitCount_0f7a4 2 = .ok (.iconst 1, 1) := by decide +kernel
theorem dJ6_bitCount_0f7a4_3 : decode cJ6_bitCount_0f7a4 3 = .ok (.iushr, 1) := by decide +kernel
theorem dJ6_bitCount_0f7a4_4 : decode cJ6_bitCount_0f7a4 4 = .ok (.ldc_w 265, 3) := by decide +kernel
theorem dJ6_bitCount_0f7a4_7 : decode cJ6_bitCount_0f7a4 7 = .ok (.iand, 1) := by decide +kernel
theorem dJ6_bitCount_0f7a4_8 : decode cJ6_bitCount_0f7a4 8 = .ok (.isub, 1) := by decide +kernel
theorem dJ6_bitCount_0f7a4_9 : decode cJ6_bitCount_0f7a4 9 = .ok (.istore_n 0, 1) := by decide +kernel
theorem dJ6_bitCount_0f7a4_10 : decode cJ6_bitCount_0f7a4 10 = .ok (.iload_n 0, 1) := by decide +kernel
theorem dJ6_bitCount_0f7a4_11 : decode cJ6_bitCount_0f7a4 11 = .ok (.ldc_w 266, 3) := by decide +kernel
theorem dJ6_bitCount_0f7a4_14 : decode cJ6_bitCount_0f7a4 14 = .ok (.iand, 1) := by decide +kernel
theorem dJ6_bitCount_0f7a4_15 : decode cJ6_bitCount_0f7a4 15 = .ok (.iload_n 0, 1) := by decide +kernel
theorem dJ6_bitCount_0f7a4_16 : decode cJ6_bitCount_0f7a4 16 = .ok (.iconst 2, 1) := by decide +kernel
theorem dJ6_bitCount_0f7a4_17 : decode cJ6_bitCount_0f7a4 17 = .ok (.iushr, 1) := by decide +kernel
theorem dJ6_bitCount_0f7a4_18 : decode cJ6_bitCount_0f7a4 18 = .ok (.ldc_w 266, 3) := by decide +kernel
theorem dJ6_bitCount_0f7a4_21 : decode cJ6_bitCount_0f7a4 21 = .ok (.iand, 1) := by decide +kernel
theorem dJ6_bitCount_0f7a4_22 : decode cJ6_bitCount_0f7a4 22 = .ok (.iadd, 1) := by decide +kernel
theorem dJ6_bitCount_0f7a4_23 : decode cJ6_bitCount_0f7a4 23 = .ok (.istore_n 0, 1) := by decide +kernel
theorem dJ6_bitCount_0f7a4_24 : decode cJ6_bitCount_0f7a4 24 = .ok (.iload_n 0, 1) := by decide +kernel
theorem dJ6_bitCount_0f7a4_25 : decode cJ6_bitCount_0f7a4 25 = .ok (.iload_n 0, 1) := by decide +kernel
theorem dJ6_bitCount_0f7a4_26 : decode cJ6_bitCount_0f7a4 26 = .ok (.iconst 4, 1) := by decide +kernel
theorem dJ6_bitCount_0f7a4_27 : decode cJ6_bitCount_0f7a4 27 = .ok (.iushr, 1) := by decide +kernel
theorem dJ6_bitCount_0f7a4_28 : decode cJ6_bitCount_0f7a4 28 = .ok (.iadd, 1) := by decide +kernel
theorem dJ6_bitCount_0f7a4_29 : decode cJ6_bitCount_0f7a4 29 = .ok (.ldc_w 267, 3) := by decide +kernel
theorem dJ6_bitCount_0f7a4_32 : decode cJ6_bitCount_0f7a4 32 = .ok (.iand, 1) := by decide +kernel
theorem dJ6_bitCount_0f7a4_33 : decode cJ6_bitCount_0f7a4 33 = .ok (.istore_n 0, 1) := by decide +kernel
theorem dJ6_bitCount_0f7a4_34 : decode cJ6_bitCount_0f7a4 34 = .ok (.iload_n 0, 1) := by decide +kernel
theorem dJ6_bitCount_0f7a4_35 : decode cJ6_bitCount_0f7a4 35 = .ok (.iload_n 0, 1) := by decide +kernel
theorem dJ6_bitCount_0f7a4_36 : decode cJ6_bitCount_0f7a4 36 = .ok (.bipush 8, 2) := by decide +kernel
theorem dJ6_bitCount_0f7a4_38 : decode cJ6_bitCount_0f7a4 38 = .ok (.iushr, 1) := by decide +kernel
theorem dJ6_bitCount_0f7a4_39 : decode cJ6_bitCount_0f7a4 39 = .ok (.iadd, 1) := by decide +kernel
theorem dJ6_bitCount_0f7a4_40 : decode cJ6_bitCount_0f7a4 40 = .ok (.istore_n 0, 1) := by decide +kernel
theorem dJ6_bitCount_0f7a4_41 : decode cJ6_bitCount_0f7a4 41 = .ok (.iload_n 0, 1) := by decide +kernel
theorem dJ6_bitCount_0f7a4_42 : decode cJ6_bitCount_0f7a4 42 = .ok (.iload_n 0, 1) := by decide +kernel
theorem dJ6_bitCount_0f7a4_43 : decode cJ6_bitCount_0f7a4 43 = .ok (.bipush 16, 2) := by decide +kernel
theorem dJ6_bitCount_0f7a4_45 : decode cJ6_bitCount_0f7a4 45 = .ok (.iushr, 1) := by decide +kernel
theorem dJ6_bitCount_0f7a4_46 : decode cJ6_bitCount_0f7a4 46 = .ok (.iadd, 1) := by decide +kernel
theorem dJ6_bitCount_0f7a4_47 : decode cJ6_bitCount_0f7a4 47 = .ok (.istore_n 0, 1) := by decide +kernel
theorem dJ6_bitCount_0f7a4_48 : decode cJ6_bitCount_0f7a4 48 = .ok (.iload_n 0, 1) := by decide +kernel
theorem dJ6_bitCount_0f7a4_49 : decode cJ6_bitCount_0f7a4 49 = .ok (.bipush 63, 2) := by decide +kernel
theorem dJ6_bitCount_0f7a4_51 : decode cJ6_bitCount_0f7a4 51 = .ok (.iand, 1) := by decide +kernel
theorem dJ6_bitCount_0f7a4_52 : decode cJ6_bitCount_0f7a4 52 = .ok (.ireturn, 1) := by decide +kernel
def f_J6_bitCount_0f7a4 (v0 : Int32) : Int32 := ((((((((v0 - (((v0).toUInt32 >>> (((1 : Int32)).toUInt32 &&& Int32.toUInt32 31)).toInt32 &&& (1431655765 : Int32))) &&& (858993459 : Int32)) + ((((v0 - (((v0).toUInt32 >>> (((1 : Int32)).toUInt32 &&& Int32.toUInt32 31)).toInt32 &&& (1431655765 : Int32)))).toUInt32 >>> (((2 : Int32)).toUInt32 &&& Int32.toUInt32 31)).toInt32 &&& (858993459 : Int32))) + (((((v0 - (((v0).toUInt32 >>> (((1 : Int32)).toUInt32 &&& Int32.toUInt32 31)).toInt32 &&& (1431655765 : Int32))) &&& (858993459 : Int32)) + ((((v0 - (((v0).toUInt32 >>> (((1 : Int32)).toUInt32 &&& Int32.toUInt32 31)).toInt32 &&& (1431655765 : Int32)))).toUInt32 >>> (((2 : Int32)).toUInt32 &&& Int32.toUInt32 31)).toInt32 &&& (858993459 : Int32)))).toUInt32 >>> (((4 : Int32)).toUInt32 &&& Int32.toUInt32 31)).toInt32) &&& (252645135 : Int32)) + (((((((v0 - (((v0).toUInt32 >>> (((1 : Int32)).toUInt32 &&& Int32.toUInt32 31)).toInt32 &&& (1431655765 : Int32))) &&& (858993459 : Int32)) + ((((v0 - (((v0).toUInt32 >>> (((1 : Int32)).toUInt32 &&& Int32.toUInt32 31)).toInt32 &&& (1431655765 : Int32)))).toUInt32 >>> (((2 : Int32)).toUInt32 &&& Int32.toUInt32 31)).toInt32 &&& (858993459 : Int32))) + (((((v0 - (((v0).toUInt32 >>> (((1 : Int32)).toUInt32 &&& Int32.toUInt32 31)).toInt32 &&& (1431655765 : Int32))) &&& (858993459 : Int32)) + ((((v0 - (((v0).toUInt32 >>> (((1 : Int32)).toUInt32 &&& Int32.toUInt32 31)).toInt32 &&& (1431655765 : Int32)))).toUInt32 >>> (((2 : Int32)).toUInt32 &&& Int32.toUInt32 31)).toInt32 &&& (858993459 : Int32)))).toUInt32 >>> (((4 : Int32)).toUInt32 &&& Int32.toUInt32 31)).toInt32) &&& (252645135 : Int32))).toUInt32 >>> (((8 : Int32)).toUInt32 &&& Int32.toUInt32 31)).toInt32) + ((((((((v0 - (((v0).toUInt32 >>> (((1 : Int32)).toUInt32 &&& Int32.toUInt32 31)).toInt32 &&& (1431655765 : Int32))) &&& (858993459 : Int32)) + ((((v0 - (((v0).toUInt32 >>> (((1 : Int32)).toUInt32 &&& Int32.toUInt32 31)).toInt32 &&& (1431655765 : Int32)))).toUInt32 >>> (((2 : Int32)).toUInt32 &&& Int32.toUInt32 31)).toInt32 &&& (858993459 : Int32))) + (((((v0 - (((v0).toUInt32 >>> (((1 : Int32)).toUInt32 &&& Int32.toUInt32 31)).toInt32 &&& (1431655765 : Int32))) &&& (858993459 : Int32)) + ((((v0 - (((v0).toUInt32 >>> (((1 : Int32)).toUInt32 &&& Int32.toUInt32 31)).toInt32 &&& (1431655765 : Int32)))).toUInt32 >>> (((2 : Int32)).toUInt32 &&& Int32.toUInt32 31)).toInt32 &&& (858993459 : Int32)))).toUInt32 >>> (((4 : Int32)).toUInt32 &&& Int32.toUInt32 31)).toInt32) &&& (252645135 : Int32)) + (((((((v0 - (((v0).toUInt32 >>> (((1 : Int32)).toUInt32 &&& Int32.toUInt32 31)).toInt32 &&& (1431655765 : Int32))) &&& (858993459 : Int32)) + ((((v0 - (((v0).toUInt32 >>> (((1 : Int32)).toUInt32 &&& Int32.toUInt32 31)).toInt32 &&& (1431655765 : Int32)))).toUInt32 >>> (((2 : Int32)).toUInt32 &&& Int32.toUInt32 31)).toInt32 &&& (858993459 : Int32))) + (((((v0 - (((v0).toUInt32 >>> (((1 : Int32)).toUInt32 &&& Int32.toUInt32 31)).toInt32 &&& (1431655765 : Int32))) &&& (858993459 : Int32)) + ((((v0 - (((v0).toUInt32 >>> (((1 : Int32)).toUInt32 &&& Int32.toUInt32 31)).toInt32 &&& (1431655765 : Int32)))).toUInt32 >>> (((2 : Int32)).toUInt32 &&& Int32.toUInt32 31)).toInt32 &&& (858993459 : Int32)))).toUInt32 >>> (((4 : Int32)).toUInt32 &&& Int32.toUInt32 31)).toInt32) &&& (252645135 : Int32))).toUInt32 >>> (((8 : Int32)).toUInt32 &&& Int32.toUInt32 31)).toInt32)).toUInt32 >>> (((16 : Int32)).toUInt32 &&& Int32.toUInt32 31)).toInt32) &&& (63 : Int32))
set_option maxHeartbeats 4000000 in
set_option maxRecDepth 100000 in
theorem c_J6_bitCount_0f7a4 (Γ : Cx) (l : Launch) (Λ : List Ly) (d : Dt) (v0 : Int32) : Cn Γ l yJ6_bitCount_0f7a4 cJ6_bitCount_0f7a4 1 (some FieldType.int) 0 0 [.int v0] Λ d (some (.int (f_J6_bitCount_0f7a4 v0))) d := by
  generalize hf : f_J6_bitCount_0f7a4 v0 = z
  refine Cn.of (own := "java/lang/Integer") (by decide +kernel) rfl (Nat.le_of_ble_eq_true rfl) ?_
  intro p e s m below meth c C0 hr hlocks hH ls hl
  have hl : lv_has ls 1 [(0, .int v0)] := hl
  obtain ⟨hx, hb, hml, hown, hts, hK⟩ := id C0
  unfold f_J6_bitCount_0f7a4 at hf
  refine lv_iload_n hx hb dJ6_bitCount_0f7a4_0 rfl (lv_at hl 0 rfl) ?_
  refine lv_iload_n hx hb dJ6_bitCount_0f7a4_1 rfl (lv_at hl 0 rfl) ?_
  refine lv_iconst (v := (1 : Int32)) hx hb dJ6_bitCount_0f7a4_2 (by decide) ?_
  refine lv_iushr (v := ((v0).toUInt32 >>> (((1 : Int32)).toUInt32 &&& Int32.toUInt32 31)).toInt32) hx hb dJ6_bitCount_0f7a4_3 rfl ?_
  refine lv_ldcw hx hb hown (hts _ kc_J6_265) dJ6_bitCount_0f7a4_4 ?_
  refine lv_iand hx hb dJ6_bitCount_0f7a4_7 ?_
  refine lv_isub hx hb dJ6_bitCount_0f7a4_8 ?_
  refine lv_istore_n (lv' := [(0, .int (v0 - (((v0).toUInt32 >>> (((1 : Int32)).toUInt32 &&& Int32.toUInt32 31)).toInt32 &&& (1431655765 : Int32))))]) hx hb dJ6_bitCount_0f7a4_9 rfl hl (by decide) rfl (fun ls hl => ?_)
  refine lv_iload_n hx hb dJ6_bitCount_0f7a4_10 rfl (lv_at hl 0 rfl) ?_
  refine lv_ldcw hx hb hown (hts _ kc_J6_266) dJ6_bitCount_0f7a4_11 ?_
  refine lv_iand hx hb dJ6_bitCount_0f7a4_14 ?_
  refine lv_iload_n hx hb dJ6_bitCount_0f7a4_15 rfl (lv_at hl 0 rfl) ?_
  refine lv_iconst (v := (2 : Int32)) hx hb dJ6_bitCount_0f7a4_16 (by decide) ?_
  refine lv_iushr (v := (((v0 - (((v0).toUInt32 >>> (((1 : Int32)).toUInt32 &&& Int32.toUInt32 31)).toInt32 &&& (1431655765 : Int32)))).toUInt32 >>> (((2 : Int32)).toUInt32 &&& Int32.toUInt32 31)).toInt32) hx hb dJ6_bitCount_0f7a4_17 rfl ?_
  refine lv_ldcw hx hb hown (hts _ kc_J6_266) dJ6_bitCount_0f7a4_18 ?_
  refine lv_iand hx hb dJ6_bitCount_0f7a4_21 ?_
  refine lv_iadd hx hb dJ6_bitCount_0f7a4_22 ?_
  refine lv_istore_n (lv' := [(0, .int (((v0 - (((v0).toUInt32 >>> (((1 : Int32)).toUInt32 &&& Int32.toUInt32 31)).toInt32 &&& (1431655765 : Int32))) &&& (858993459 : Int32)) + ((((v0 - (((v0).toUInt32 >>> (((1 : Int32)).toUInt32 &&& Int32.toUInt32 31)).toInt32 &&& (1431655765 : Int32)))).toUInt32 >>> (((2 : Int32)).toUInt32 &&& Int32.toUInt32 31)).toInt32 &&& (858993459 : Int32))))]) hx hb dJ6_bitCount_0f7a4_23 rfl hl (by decide) rfl (fun ls hl => ?_)
  refine lv_iload_n hx hb dJ6_bitCount_0f7a4_24 rfl (lv_at hl 0 rfl) ?_
  refine lv_iload_n hx hb dJ6_bitCount_0f7a4_25 rfl (lv_at hl 0 rfl) ?_
  refine lv_iconst (v := (4 : Int32)) hx hb dJ6_bitCount_0f7a4_26 (by decide) ?_
  refine lv_iushr (v := (((((v0 - (((v0).toUInt32 >>> (((1 : Int32)).toUInt32 &&& Int32.toUInt32 31)).toInt32 &&& (1431655765 : Int32))) &&& (858993459 : Int32)) + ((((v0 - (((v0).toUInt32 >>> (((1 : Int32)).toUInt32 &&& Int32.toUInt32 31)).toInt32 &&& (1431655765 : Int32)))).toUInt32 >>> (((2 : Int32)).toUInt32 &&& Int32.toUInt32 31)).toInt32 &&& (858993459 : Int32)))).toUInt32 >>> (((4 : Int32)).toUInt32 &&& Int32.toUInt32 31)).toInt32) hx hb dJ6_bitCount_0f7a4_27 rfl ?_
  refine lv_iadd hx hb dJ6_bitCount_0f7a4_28 ?_
  refine lv_ldcw hx hb hown (hts _ kc_J6_267) dJ6_bitCount_0f7a4_29 ?_
  refine lv_iand hx hb dJ6_bitCount_0f7a4_32 ?_
  refine lv_istore_n (lv' := [(0, .int (((((v0 - (((v0).toUInt32 >>> (((1 : Int32)).toUInt32 &&& Int32.toUInt32 31)).toInt32 &&& (1431655765 : Int32))) &&& (858993459 : Int32)) + ((((v0 - (((v0).toUInt32 >>> (((1 : Int32)).toUInt32 &&& Int32.toUInt32 31)).toInt32 &&& (1431655765 : Int32)))).toUInt32 >>> (((2 : Int32)).toUInt32 &&& Int32.toUInt32 31)).toInt32 &&& (858993459 : Int32))) + (((((v0 - (((v0).toUInt32 >>> (((1 : Int32)).toUInt32 &&& Int32.toUInt32 31)).toInt32 &&& (1431655765 : Int32))) &&& (858993459 : Int32)) + ((((v0 - (((v0).toUInt32 >>> (((1 : Int32)).toUInt32 &&& Int32.toUInt32 31)).toInt32 &&& (1431655765 : Int32)))).toUInt32 >>> (((2 : Int32)).toUInt32 &&& Int32.toUInt32 31)).toInt32 &&& (858993459 : Int32)))).toUInt32 >>> (((4 : Int32)).toUInt32 &&& Int32.toUInt32 31)).toInt32) &&& (252645135 : Int32)))]) hx hb dJ6_bitCount_0f7a4_33 rfl hl (by decide) rfl (fun ls hl => ?_)
  refine lv_iload_n hx hb dJ6_bitCount_0f7a4_34 rfl (lv_at hl 0 rfl) ?_
  refine lv_iload_n hx hb dJ6_bitCount_0f7a4_35 rfl (lv_at hl 0 rfl) ?_
  refine lv_bipush (v := (8 : Int32)) hx hb dJ6_bitCount_0f7a4_36 (by decide) ?_
  refine lv_iushr (v := (((((((v0 - (((v0).toUInt32 >>> (((1 : Int32)).toUInt32 &&& Int32.toUInt32 31)).toInt32 &&& (1431655765 : Int32))) &&& (858993459 : Int32)) + ((((v0 - (((v0).toUInt32 >>> (((1 : Int32)).toUInt32 &&& Int32.toUInt32 31)).toInt32 &&& (1431655765 : Int32)))).toUInt32 >>> (((2 : Int32)).toUInt32 &&& Int32.toUInt32 31)).toInt32 &&& (858993459 : Int32))) + (((((v0 - (((v0).toUInt32 >>> (((1 : Int32)).toUInt32 &&& Int32.toUInt32 31)).toInt32 &&& (1431655765 : Int32))) &&& (858993459 : Int32)) + ((((v0 - (((v0).toUInt32 >>> (((1 : Int32)).toUInt32 &&& Int32.toUInt32 31)).toInt32 &&& (1431655765 : Int32)))).toUInt32 >>> (((2 : Int32)).toUInt32 &&& Int32.toUInt32 31)).toInt32 &&& (858993459 : Int32)))).toUInt32 >>> (((4 : Int32)).toUInt32 &&& Int32.toUInt32 31)).toInt32) &&& (252645135 : Int32))).toUInt32 >>> (((8 : Int32)).toUInt32 &&& Int32.toUInt32 31)).toInt32) hx hb dJ6_bitCount_0f7a4_38 rfl ?_
  refine lv_iadd hx hb dJ6_bitCount_0f7a4_39 ?_
  refine lv_istore_n (lv' := [(0, .int ((((((v0 - (((v0).toUInt32 >>> (((1 : Int32)).toUInt32 &&& Int32.toUInt32 31)).toInt32 &&& (1431655765 : Int32))) &&& (858993459 : Int32)) + ((((v0 - (((v0).toUInt32 >>> (((1 : Int32)).toUInt32 &&& Int32.toUInt32 31)).toInt32 &&& (1431655765 : Int32)))).toUInt32 >>> (((2 : Int32)).toUInt32 &&& Int32.toUInt32 31)).toInt32 &&& (858993459 : Int32))) + (((((v0 - (((v0).toUInt32 >>> (((1 : Int32)).toUInt32 &&& Int32.toUInt32 31)).toInt32 &&& (1431655765 : Int32))) &&& (858993459 : Int32)) + ((((v0 - (((v0).toUInt32 >>> (((1 : Int32)).toUInt32 &&& Int32.toUInt32 31)).toInt32 &&& (1431655765 : Int32)))).toUInt32 >>> (((2 : Int32)).toUInt32 &&& Int32.toUInt32 31)).toInt32 &&& (858993459 : Int32)))).toUInt32 >>> (((4 : Int32)).toUInt32 &&& Int32.toUInt32 31)).toInt32) &&& (252645135 : Int32)) + (((((((v0 - (((v0).toUInt32 >>> (((1 : Int32)).toUInt32 &&& Int32.toUInt32 31)).toInt32 &&& (1431655765 : Int32))) &&& (858993459 : Int32)) + ((((v0 - (((v0).toUInt32 >>> (((1 : Int32)).toUInt32 &&& Int32.toUInt32 31)).toInt32 &&& (1431655765 : Int32)))).toUInt32 >>> (((2 : Int32)).toUInt32 &&& Int32.toUInt32 31)).toInt32 &&& (858993459 : Int32))) + (((((v0 - (((v0).toUInt32 >>> (((1 : Int32)).toUInt32 &&& Int32.toUInt32 31)).toInt32 &&& (1431655765 : Int32))) &&& (858993459 : Int32)) + ((((v0 - (((v0).toUInt32 >>> (((1 : Int32)).toUInt32 &&& Int32.toUInt32 31)).toInt32 &&& (1431655765 : Int32)))).toUInt32 >>> (((2 : Int32)).toUInt32 &&& Int32.toUInt32 31)).toInt32 &&& (858993459 : Int32)))).toUInt32 >>> (((4 : Int32)).toUInt32 &&& Int32.toUInt32 31)).toInt32) &&& (252645135 : Int32))).toUInt32 >>> (((8 : Int32)).toUInt32 &&& Int32.toUInt32 31)).toInt32))]) hx hb dJ6_bitCount_0f7a4_40 rfl hl (by decide) rfl (fun ls hl => ?_)
  refine lv_iload_n hx hb dJ6_bitCount_0f7a4_41 rfl (lv_at hl 0 rfl) ?_
  refine lv_iload_n hx hb dJ6_bitCount_0f7a4_42 rfl (lv_at hl 0 rfl) ?_
  refine lv_bipush (v := (16 : Int32)) hx hb dJ6_bitCount_0f7a4_43 (by decide) ?_
  refine lv_iushr (v := ((((((((v0 - (((v0).toUInt32 >>> (((1 : Int32)).toUInt32 &&& Int32.toUInt32 31)).toInt32 &&& (1431655765 : Int32))) &&& (858993459 : Int32)) + ((((v0 - (((v0).toUInt32 >>> (((1 : Int32)).toUInt32 &&& Int32.toUInt32 31)).toInt32 &&& (1431655765 : Int32)))).toUInt32 >>> (((2 : Int32)).toUInt32 &&& Int32.toUInt32 31)).toInt32 &&& (858993459 : Int32))) + (((((v0 - (((v0).toUInt32 >>> (((1 : Int32)).toUInt32 &&& Int32.toUInt32 31)).toInt32 &&& (1431655765 : Int32))) &&& (858993459 : Int32)) + ((((v0 - (((v0).toUInt32 >>> (((1 : Int32)).toUInt32 &&& Int32.toUInt32 31)).toInt32 &&& (1431655765 : Int32)))).toUInt32 >>> (((2 : Int32)).toUInt32 &&& Int32.toUInt32 31)).toInt32 &&& (858993459 : Int32)))).toUInt32 >>> (((4 : Int32)).toUInt32 &&& Int32.toUInt32 31)).toInt32) &&& (252645135 : Int32)) + (((((((v0 - (((v0).toUInt32 >>> (((1 : Int32)).toUInt32 &&& Int32.toUInt32 31)).toInt32 &&& (1431655765 : Int32))) &&& (858993459 : Int32)) + ((((v0 - (((v0).toUInt32 >>> (((1 : Int32)).toUInt32 &&& Int32.toUInt32 31)).toInt32 &&& (1431655765 : Int32)))).toUInt32 >>> (((2 : Int32)).toUInt32 &&& Int32.toUInt32 31)).toInt32 &&& (858993459 : Int32))) + (((((v0 - (((v0).toUInt32 >>> (((1 : Int32)).toUInt32 &&& Int32.toUInt32 31)).toInt32 &&& (1431655765 : Int32))) &&& (858993459 : Int32)) + ((((v0 - (((v0).toUInt32 >>> (((1 : Int32)).toUInt32 &&& Int32.toUInt32 31)).toInt32 &&& (1431655765 : Int32)))).toUInt32 >>> (((2 : Int32)).toUInt32 &&& Int32.toUInt32 31)).toInt32 &&& (858993459 : Int32)))).toUInt32 >>> (((4 : Int32)).toUInt32 &&& Int32.toUInt32 31)).toInt32) &&& (252645135 : Int32))).toUInt32 >>> (((8 : Int32)).toUInt32 &&& Int32.toUInt32 31)).toInt32)).toUInt32 >>> (((16 : Int32)).toUInt32 &&& Int32.toUInt32 31)).toInt32) hx hb dJ6_bitCount_0f7a4_45 rfl ?_
  refine lv_iadd hx hb dJ6_bitCount_0f7a4_46 ?_
  refine lv_istore_n (lv' := [(0, .int (((((((v0 - (((v0).toUInt32 >>> (((1 : Int32)).toUInt32 &&& Int32.toUInt32 31)).toInt32 &&& (1431655765 : Int32))) &&& (858993459 : Int32)) + ((((v0 - (((v0).toUInt32 >>> (((1 : Int32)).toUInt32 &&& Int32.toUInt32 31)).toInt32 &&& (1431655765 : Int32)))).toUInt32 >>> (((2 : Int32)).toUInt32 &&& Int32.toUInt32 31)).toInt32 &&& (858993459 : Int32))) + (((((v0 - (((v0).toUInt32 >>> (((1 : Int32)).toUInt32 &&& Int32.toUInt32 31)).toInt32 &&& (1431655765 : Int32))) &&& (858993459 : Int32)) + ((((v0 - (((v0).toUInt32 >>> (((1 : Int32)).toUInt32 &&& Int32.toUInt32 31)).toInt32 &&& (1431655765 : Int32)))).toUInt32 >>> (((2 : Int32)).toUInt32 &&& Int32.toUInt32 31)).toInt32 &&& (858993459 : Int32)))).toUInt32 >>> (((4 : Int32)).toUInt32 &&& Int32.toUInt32 31)).toInt32) &&& (252645135 : Int32)) + (((((((v0 - (((v0).toUInt32 >>> (((1 : Int32)).toUInt32 &&& Int32.toUInt32 31)).toInt32 &&& (1431655765 : Int32))) &&& (858993459 : Int32)) + ((((v0 - (((v0).toUInt32 >>> (((1 : Int32)).toUInt32 &&& Int32.toUInt32 31)).toInt32 &&& (1431655765 : Int32)))).toUInt32 >>> (((2 : Int32)).toUInt32 &&& Int32.toUInt32 31)).toInt32 &&& (858993459 : Int32))) + (((((v0 - (((v0).toUInt32 >>> (((1 : Int32)).toUInt32 &&& Int32.toUInt32 31)).toInt32 &&& (1431655765 : Int32))) &&& (858993459 : Int32)) + ((((v0 - (((v0).toUInt32 >>> (((1 : Int32)).toUInt32 &&& Int32.toUInt32 31)).toInt32 &&& (1431655765 : Int32)))).toUInt32 >>> (((2 : Int32)).toUInt32 &&& Int32.toUInt32 31)).toInt32 &&& (858993459 : Int32)))).toUInt32 >>> (((4 : Int32)).toUInt32 &&& Int32.toUInt32 31)).toInt32) &&& (252645135 : Int32))).toUInt32 >>> (((8 : Int32)).toUInt32 &&& Int32.toUInt32 31)).toInt32) + ((((((((v0 - (((v0).toUInt32 >>> (((1 : Int32)).toUInt32 &&& Int32.toUInt32 31)).toInt32 &&& (1431655765 : Int32))) &&& (858993459 : Int32)) + ((((v0 - (((v0).toUInt32 >>> (((1 : Int32)).toUInt32 &&& Int32.toUInt32 31)).toInt32 &&& (1431655765 : Int32)))).toUInt32 >>> (((2 : Int32)).toUInt32 &&& Int32.toUInt32 31)).toInt32 &&& (858993459 : Int32))) + (((((v0 - (((v0).toUInt32 >>> (((1 : Int32)).toUInt32 &&& Int32.toUInt32 31)).toInt32 &&& (1431655765 : Int32))) &&& (858993459 : Int32)) + ((((v0 - (((v0).toUInt32 >>> (((1 : Int32)).toUInt32 &&& Int32.toUInt32 31)).toInt32 &&& (1431655765 : Int32)))).toUInt32 >>> (((2 : Int32)).toUInt32 &&& Int32.toUInt32 31)).toInt32 &&& (858993459 : Int32)))).toUInt32 >>> (((4 : Int32)).toUInt32 &&& Int32.toUInt32 31)).toInt32) &&& (252645135 : Int32)) + (((((((v0 - (((v0).toUInt32 >>> (((1 : Int32)).toUInt32 &&& Int32.toUInt32 31)).toInt32 &&& (1431655765 : Int32))) &&& (858993459 : Int32)) + ((((v0 - (((v0).toUInt32 >>> (((1 : Int32)).toUInt32 &&& Int32.toUInt32 31)).toInt32 &&& (1431655765 : Int32)))).toUInt32 >>> (((2 : Int32)).toUInt32 &&& Int32.toUInt32 31)).toInt32 &&& (858993459 : Int32))) + (((((v0 - (((v0).toUInt32 >>> (((1 : Int32)).toUInt32 &&& Int32.toUInt32 31)).toInt32 &&& (1431655765 : Int32))) &&& (858993459 : Int32)) + ((((v0 - (((v0).toUInt32 >>> (((1 : Int32)).toUInt32 &&& Int32.toUInt32 31)).toInt32 &&& (1431655765 : Int32)))).toUInt32 >>> (((2 : Int32)).toUInt32 &&& Int32.toUInt32 31)).toInt32 &&& (858993459 : Int32)))).toUInt32 >>> (((4 : Int32)).toUInt32 &&& Int32.toUInt32 31)).toInt32) &&& (252645135 : Int32))).toUInt32 >>> (((8 : Int32)).toUInt32 &&& Int32.toUInt32 31)).toInt32)).toUInt32 >>> (((16 : Int32)).toUInt32 &&& Int32.toUInt32 31)).toInt32))]) hx hb dJ6_bitCount_0f7a4_47 rfl hl (by decide) rfl (fun ls hl => ?_)
  refine lv_iload_n hx hb dJ6_bitCount_0f7a4_48 rfl (lv_at hl 0 rfl) ?_
  refine lv_bipush (v := (63 : Int32)) hx hb dJ6_bitCount_0f7a4_49 (by decide) ?_
  refine lv_iand hx hb dJ6_bitCount_0f7a4_51 ?_
  subst hf
  exact r_iret (d' := d) C0 hr hlocks hH rfl dJ6_bitCount_0f7a4_52
theorem dX7_apprentice_0 : decode cX7_apprentice 0 = .ok (.aload_n 0, 1) := by decide +kernel
theorem dX7_apprentice_1 : decode cX7_apprentice 1 = .ok (.iload_n 1, 1) := by decide +kernel
theorem dX7_apprentice_2 : decode cX7_apprentice 2 = .ok (.invokevirtual 75, 3) := by decide +kernel
theorem dX7_apprentice_5 : decode cX7_apprentice 5 = .ok (.ifCond .eq 20, 3) := by decide +kernel
theorem dX7_apprentice_8 : decode cX7_apprentice 8 = .ok (.iload_n 2, 1) := by decide +kernel
theorem dX7_apprentice_9 : decode cX7_apprentice 9 = .ok (.invokestatic 79, 3) := by decide +kernel
theorem dX7_apprentice_12 : decode cX7_apprentice 12 = .ok (.ifCond .eq 13, 3) := by decide +kernel
theorem dX7_apprentice_15 : decode cX7_apprentice 15 = .ok (.iload_n 3, 1) := by decide +kernel
theorem dX7_apprentice_16 : decode cX7_apprentice 16 = .ok (.iconst 1, 1) := by decide +kernel
theorem dX7_apprentice_17 : decode cX7_apprentice 17 = .ok (.bipush 99, 2) := by decide +kernel
theorem dX7_apprentice_19 : decode cX7_apprentice 19 = .ok (.invokestatic 68, 3) := by decide +kernel
theorem dX7_apprentice_22 : decode cX7_apprentice 22 = .ok (.ifCond .ne 5, 3) := by decide +kernel
theorem dX7_apprentice_25 : decode cX7_apprentice 25 = .ok (.iconst (-1), 1) := by decide +kernel
theorem dX7_apprentice_26 : decode cX7_apprentice 26 = .ok (.ireturn, 1) := by decide +kernel
theorem dX7_apprentice_27 : decode cX7_apprentice 27 = .ok (.aload_n 0, 1) := by decide +kernel
theorem dX7_apprentice_28 : decode cX7_apprentice 28 = .ok (.getfield 19, 3) := by decide +kernel
theorem dX7_apprentice_31 : decode cX7_apprentice 31 = .ok (.iload_n 1, 1) := by decide +kernel
theorem dX7_apprentice_32 : decode cX7_apprentice 32 = .ok (.aaload, 1) := by decide +kernel
theorem dX7_apprentice_33 : decode cX7_apprentice 33 = .ok (.astore 4, 2) := by decide +kernel
theorem dX7_apprentice_35 : decode cX7_apprentice 35 = .ok (.aload 4, 2) := by decide +kernel
theorem dX7_apprentice_37 : decode cX7_apprentice 37 = .ok (.invokevirtual 82, 3) := by decide +kernel
theorem dX7_apprentice_40 : decode cX7_apprentice 40 = .ok (.ifCond .ne 6, 3) := by decide +kernel
theorem dX7_apprentice_43 : decode cX7_apprentice 43 = .ok (.bipush (-2), 2) := by decide +kernel
theorem dX7_apprentice_45 : decode cX7_apprentice 45 = .ok (.ireturn, 1) := by decide +kernel
theorem dX7_apprentice_46 : decode cX7_apprentice 46 = .ok (.aload 4, 2) := by decide +kernel
theorem dX7_apprentice_48 : decode cX7_apprentice 48 = .ok (.iload_n 2, 1) := by decide +kernel
theorem dX7_apprentice_49 : decode cX7_apprentice 49 = .ok (.putfield 86, 3) := by decide +kernel
theorem dX7_apprentice_52 : decode cX7_apprentice 52 = .ok (.aload 4, 2) := by decide +kernel
theorem dX7_apprentice_54 : decode cX7_apprentice 54 = .ok (.iload_n 3, 1) := by decide +kernel
theorem dX7_apprentice_55 : decode cX7_apprentice 55 = .ok (.putfield 89, 3) := by decide +kernel
theorem dX7_apprentice_58 : decode cX7_apprentice 58 = .ok (.aload_n 0, 1) := by decide +kernel
theorem dX7_apprentice_59 : decode cX7_apprentice 59 = .ok (.iload_n 2, 1) := by decide +kernel
theorem dX7_apprentice_60 : decode cX7_apprentice 60 = .ok (.invokevirtual 92, 3) := by decide +kernel
theorem dX7_apprentice_63 : decode cX7_apprentice 63 = .ok (.invokestatic 96, 3) := by decide +kernel
theorem dX7_apprentice_66 : decode cX7_apprentice 66 = .ok (.ireturn, 1) := by decide +kernel
def f_X7_apprentice (Λ : List Ly) (d : Dt) (p0 : Nat) (v1 : Int32) (v2 : Int32) (v3 : Int32) : Option (Int32 × Dt) := if clsAt Λ p0 = some 7 then (Option.bind (f_X7_has Λ d p0 v1) fun z2 => if z2 = 0 then (some ((-1 : Int32), d)) else (if (f_X8_isSeason v2) = 0 then (some ((-1 : Int32), d)) else (if (f_X8_within v3 (1 : Int32) (99 : Int32)) = 0 then (some ((-1 : Int32), d)) else (Option.bind (rf Λ p0 7 1) fun q6 => Option.bind (ra Λ q6 4 v1) fun q7 => if clsAt Λ q7 = some 1 then (Option.bind (f_X1_isFree Λ d q7) fun z9 => if z9 = 0 then (some ((-2 : Int32), d)) else (Option.bind (f_X7_boundTo Λ (pI (pI d q7 1 v2) q7 2 v3) p0 v2) fun z11 => some ((f_J6_bitCount_0f7a4 z11), (pI (pI d q7 1 v2) q7 2 v3)))) else none)))) else none
set_option maxHeartbeats 4000000 in
set_option maxRecDepth 100000 in
theorem c_X7_apprentice (Γ : Cx) (l : Launch) (Λ : List Ly) (d : Dt) (p0 : Nat) (v1 : Int32) (v2 : Int32) (v3 : Int32) (z : Int32 × Dt) (hf : f_X7_apprentice Λ d p0 v1 v2 v3 = some z) : Cn Γ l yX7_apprentice cX7_apprentice 5 (some FieldType.int) 2 44 [.ref (ad Γ.2.2.1 p0), .int v1, .int v2, .int v3] Λ d (some (.int z.1)) z.2 := by
  refine Cn.of (own := "SeasonBound$World") (by decide +kernel) rfl (Nat.le_of_ble_eq_true rfl) ?_
  intro p e s m below meth c C0 hr hlocks hH ls hl
  have hl : lv_has ls 5 [(0, .ref (ad Γ.2.2.1 p0)), (1, .int v1), (2, .int v2), (3, .int v3)] := hl
  obtain ⟨hx, hb, hml, hown, hts, hK⟩ := id C0
  unfold f_X7_apprentice at hf
  refine lv_aload_n hx hb dX7_apprentice_0 rfl (lv_at hl 0 rfl) ?_
  refine lv_iload_n hx hb dX7_apprentice_1 rfl (lv_at hl 1 rfl) ?_
  obtain ⟨g1, hf⟩ := gd hf
  obtain ⟨z2, h2, hf⟩ := ob hf
  refine r_callVi (rest := []) C0 hH (c_X7_has Γ l Λ d p0 v1 z2 h2) cv_X7_75 g1 (by decide) rfl hl.1 rfl (Nat.le_of_ble_eq_true rfl) dX7_apprentice_2 (by decide) (fun H locs hH => ?_)
  refine lv_if_eq (tgt := 25) hx hb dX7_apprentice_5 (by decide) (fun c3 => ?_) (fun c3 => ?_)
  · replace hf := it hf c3
    refine lv_iconst (v := (-1 : Int32)) hx hb dX7_apprentice_25 (by decide) ?_
    obtain rfl := Option.some.inj hf
    exact r_iret (d' := d) C0 hr hlocks hH rfl dX7_apprentice_26
  · replace hf := ie hf c3
    refine lv_iload_n hx hb dX7_apprentice_8 rfl (lv_at hl 2 rfl) ?_
    refine r_callNi (rest := []) C0 hH (c_X8_isSeason Γ l Λ d v2) cn_X7_79 (by decide) rfl hl.1 rfl (Nat.le_of_ble_eq_true rfl) dX7_apprentice_9 (by decide) (fun H locs hH => ?_)
    refine lv_if_eq (tgt := 25) hx hb dX7_apprentice_12 (by decide) (fun c4 => ?_) (fun c4 => ?_)
    · replace hf := it hf c4
      refine lv_iconst (v := (-1 : Int32)) hx hb dX7_apprentice_25 (by decide) ?_
      obtain rfl := Option.some.inj hf
      exact r_iret (d' := d) C0 hr hlocks hH rfl dX7_apprentice_26
    · replace hf := ie hf c4
      refine lv_iload_n hx hb dX7_apprentice_15 rfl (lv_at hl 3 rfl) ?_
      refine lv_iconst (v := (1 : Int32)) hx hb dX7_apprentice_16 (by decide) ?_
      refine lv_bipush (v := (99 : Int32)) hx hb dX7_apprentice_17 (by decide) ?_
      refine r_callNi (rest := []) C0 hH (c_X8_within Γ l Λ d v3 (1 : Int32) (99 : Int32)) cn_X7_68 (by decide) rfl hl.1 rfl (Nat.le_of_ble_eq_true rfl) dX7_apprentice_19 (by decide) (fun H locs hH => ?_)
      refine lv_if_ne (tgt := 27) hx hb dX7_apprentice_22 (by decide) (fun c5 => ?_) (fun c5 => ?_)
      · replace hf := ie hf c5
        refine lv_aload_n hx hb dX7_apprentice_27 rfl (lv_at hl 0 rfl) ?_
        obtain ⟨q6, g6, hf⟩ := ob hf
        refine r_getr C0 hH fl_X7_19 g6 dX7_apprentice_28 ?_
        refine lv_iload_n hx hb dX7_apprentice_31 rfl (lv_at hl 1 rfl) ?_
        obtain ⟨q7, g7, hf⟩ := ob hf
        refine r_aald (C := "SeasonBound$Child") C0 hH g7 (by decide) rfl dX7_apprentice_32 ?_
        refine lv_astore (lv' := [(4, .ref (ad Γ.2.2.1 q7)), (0, .ref (ad Γ.2.2.1 p0)), (1, .int v1), (2, .int v2), (3, .int v3)]) hx hb dX7_apprentice_33 hl (by decide) rfl (fun ls hl => ?_)
        refine lv_aload hx hb dX7_apprentice_35 (lv_at hl 0 rfl) ?_
        obtain ⟨g8, hf⟩ := gd hf
        obtain ⟨z9, h9, hf⟩ := ob hf
        refine r_callVi (rest := []) C0 hH (c_X1_isFree Γ l Λ d q7 z9 h9) cv_X7_82 g8 (by decide) rfl hl.1 rfl (Nat.le_of_ble_eq_true rfl) dX7_apprentice_37 (by decide) (fun H locs hH => ?_)
        refine lv_if_ne (tgt := 46) hx hb dX7_apprentice_40 (by decide) (fun c10 => ?_) (fun c10 => ?_)
        · replace hf := ie hf c10
          refine lv_aload hx hb dX7_apprentice_46 (lv_at hl 0 rfl) ?_
          refine lv_iload_n hx hb dX7_apprentice_48 rfl (lv_at hl 3 rfl) ?_
          refine r_puti C0 hH fw_X7_86 g8 rfl dX7_apprentice_49 (fun H locs hH => ?_)
          refine lv_aload hx hb dX7_apprentice_52 (lv_at hl 0 rfl) ?_
          refine lv_iload_n hx hb dX7_apprentice_54 rfl (lv_at hl 4 rfl) ?_
          refine r_puti C0 hH fw_X7_89 g8 rfl dX7_apprentice_55 (fun H locs hH => ?_)
          refine lv_aload_n hx hb dX7_apprentice_58 rfl (lv_at hl 1 rfl) ?_
          refine lv_iload_n hx hb dX7_apprentice_59 rfl (lv_at hl 3 rfl) ?_
          obtain ⟨z11, h11, hf⟩ := ob hf
          refine r_callVi (rest := []) C0 hH (c_X7_boundTo Γ l Λ (pI (pI d q7 1 v2) q7 2 v3) p0 v2 z11 h11) cv_X7_92 g1 (by decide) rfl hl.1 rfl (Nat.le_of_ble_eq_true rfl) dX7_apprentice_60 (by decide) (fun H locs hH => ?_)
          refine r_callSi (rest := []) C0 hH (c_J6_bitCount_0f7a4 Γ l Λ (pI (pI d q7 1 v2) q7 2 v3) z11) cs_X7_96 (by decide) rfl hl.1 rfl (Nat.le_of_ble_eq_true rfl) dX7_apprentice_63 (by decide) (fun H locs hH => ?_)
          obtain rfl := Option.some.inj hf
          exact r_iret (d' := d) C0 hr hlocks hH rfl dX7_apprentice_66
        · replace hf := it hf c10
          refine lv_bipush (v := (-2 : Int32)) hx hb dX7_apprentice_43 (by decide) ?_
          obtain rfl := Option.some.inj hf
          exact r_iret (d' := d) C0 hr hlocks hH rfl dX7_apprentice_45
      · replace hf := it hf c5
        refine lv_iconst (v := (-1 : Int32)) hx hb dX7_apprentice_25 (by decide) ?_
        obtain rfl := Option.some.inj hf
        exact r_iret (d' := d) C0 hr hlocks hH rfl dX7_apprentice_26
theorem dX3_readChild_0 : decode cX3_readChild 0 = .ok (.aload_n 1, 1) := by decide +kernel
theorem dX3_readChild_1 : decode cX3_readChild 1 = .ok (.getfield 111, 3) := by decide +kernel
theorem dX3_readChild_4 : decode cX3_readChild 4 = .ok (.iconst 5, 1) := by decide +kernel
theorem dX3_readChild_5 : decode cX3_readChild 5 = .ok (.if_icmp .lt 9, 3) := by decide +kernel
theorem dX3_readChild_8 : decode cX3_readChild 8 = .ok (.aload_n 0, 1) := by decide +kernel
theorem dX3_readChild_9 : decode cX3_readChild 9 = .ok (.iconst 5, 1) := by decide +kernel
theorem dX3_readChild_10 : decode cX3_readChild 10 = .ok (.invokevirtual 89, 3) := by decide +kernel
theorem dX3_readChild_13 : decode cX3_readChild 13 = .ok (.ireturn, 1) := by decide +kernel
theorem dX3_readChild_14 : decode cX3_readChild 14 = .ok (.aload_n 0, 1) := by decide +kernel
theorem dX3_readChild_15 : decode cX3_readChild 15 = .ok (.iconst 0, 1) := by decide +kernel
theorem dX3_readChild_16 : decode cX3_readChild 16 = .ok (.bipush 9, 2) := by decide +kernel
theorem dX3_readChild_18 : decode cX3_readChild 18 = .ok (.invokevirtual 93, 3) := by decide +kernel
theorem dX3_readChild_21 : decode cX3_readChild 21 = .ok (.ifCond .ne 5, 3) := by decide +kernel
theorem dX3_readChild_24 : decode cX3_readChild 24 = .ok (.iconst 0, 1) := by decide +kernel
theorem dX3_readChild_25 : decode cX3_readChild 25 = .ok (.ireturn, 1) := by decide +kernel
theorem dX3_readChild_26 : decode cX3_readChild 26 = .ok (.aload_n 0, 1) := by decide +kernel
theorem dX3_readChild_27 : decode cX3_readChild 27 = .ok (.getfield 12, 3) := by decide +kernel
theorem dX3_readChild_30 : decode cX3_readChild 30 = .ok (.getfield 97, 3) := by decide +kernel
theorem dX3_readChild_33 : decode cX3_readChild 33 = .ok (.istore_n 3, 1) := by decide +kernel
theorem dX3_readChild_34 : decode cX3_readChild 34 = .ok (.iload_n 3, 1) := by decide +kernel
theorem dX3_readChild_35 : decode cX3_readChild 35 = .ok (.invokestatic 114, 3) := by decide +kernel
theorem dX3_readChild_38 : decode cX3_readChild 38 = .ok (.ifCond .ne 15, 3) := by decide +kernel
theorem dX3_readChild_41 : decode cX3_readChild 41 = .ok (.iload_n 3, 1) := by decide +kernel
theorem dX3_readChild_42 : decode cX3_readChild 42 = .ok (.bipush 9, 2) := by decide +kernel
theorem dX3_readChild_44 : decode cX3_readChild 44 = .ok (.if_icmp .eq 9, 3) := by decide +kernel
theorem dX3_readChild_47 : decode cX3_readChild 47 = .ok (.aload_n 0, 1) := by decide +kernel
theorem dX3_readChild_48 : decode cX3_readChild 48 = .ok (.iconst 3, 1) := by decide +kernel
theorem dX3_readChild_49 : decode cX3_readChild 49 = .ok (.invokevirtual 89, 3) := by decide +kernel
theorem dX3_readChild_52 : decode cX3_readChild 52 = .ok (.ireturn, 1) := by decide +kernel
theorem dX3_readChild_53 : decode cX3_readChild 53 = .ok (.aload_n 0, 1) := by decide +kernel
theorem dX3_readChild_54 : decode cX3_readChild 54 = .ok (.iconst 1, 1) := by decide +kernel
theorem dX3_readChild_55 : decode cX3_readChild 55 = .ok (.bipush 99, 2) := by decide +kernel
theorem dX3_readChild_57 : decode cX3_readChild 57 = .ok (.invokevirtual 93, 3) := by decide +kernel
theorem dX3_readChild_60 : decode cX3_readChild 60 = .ok (.ifCond .ne 5, 3) := by decide +kernel
theorem dX3_readChild_63 : decode cX3_readChild 63 = .ok (.iconst 0, 1) := by decide +kernel
theorem dX3_readChild_64 : decode cX3_readChild 64 = .ok (.ireturn, 1) := by decide +kernel
theorem dX3_readChild_65 : decode cX3_readChild 65 = .ok (.aload_n 1, 1) := by decide +kernel
theorem dX3_readChild_66 : decode cX3_readChild 66 = .ok (.iload_n 2, 1) := by decide +kernel
theorem dX3_readChild_67 : decode cX3_readChild 67 = .ok (.invokevirtual 117, 3) := by decide +kernel
theorem dX3_readChild_70 : decode cX3_readChild 70 = .ok (.iload_n 3, 1) := by decide +kernel
theorem dX3_readChild_71 : decode cX3_readChild 71 = .ok (.bipush 9, 2) := by decide +kernel
theorem dX3_readChild_73 : decode cX3_readChild 73 = .ok (.if_icmp .eq 22, 3) := by decide +kernel
theorem dX3_readChild_76 : decode cX3_readChild 76 = .ok (.aload_n 1, 1) := by decide +kernel
theorem dX3_readChild_77 : decode cX3_readChild 77 = .ok (.aload_n 1, 1) := by decide +kernel
theorem dX3_readChild_78 : decode cX3_readChild 78 = .ok (.getfield 111, 3) := by decide +kernel
theorem dX3_readChild_81 : decode cX3_readChild 81 = .ok (.iconst 1, 1) := by decide +kernel
theorem dX3_readChild_82 : decode cX3_readChild 82 = .ok (.isub, 1) := by decide +kernel
theorem dX3_readChild_83 : decode cX3_readChild 83 = .ok (.iload_n 3, 1) := by decide +kernel
theorem dX3_readChild_84 : decode cX3_readChild 84 = .ok (.aload_n 0, 1) := by decide +kernel
theorem dX3_readChild_85 : decode cX3_readChild 85 = .ok (.getfield 12, 3) := by decide +kernel
theorem dX3_readChild_88 : decode cX3_readChild 88 = .ok (.getfield 97, 3) := by decide +kernel
theorem dX3_readChild_91 : decode cX3_readChild 91 = .ok (.invokevirtual 121, 3) := by decide +kernel
theorem dX3_readChild_94 : decode cX3_readChild 94 = .ok (.pop, 1) := by decide +kernel
theorem dX3_readChild_95 : decode cX3_readChild 95 = .ok (.iconst 1, 1) := by decide +kernel
theorem dX3_readChild_96 : decode cX3_readChild 96 = .ok (.ireturn, 1) := by decide +kernel
def f_X3_readChild_J53 (Λ : List Ly) (d : Dt) (p0 : Nat) (p1 : Nat) (v2 : Int32) (v3 : Int32) : Option (Int32 × Dt) := if clsAt Λ p0 = some 3 then (Option.bind (f_X3_readNumber Λ d p0 (1 : Int32) (99 : Int32)) fun z10 => if z10.1 = 0 then (some ((0 : Int32), z10.2)) else (if clsAt Λ p1 = some 7 then (Option.bind (f_X7_add Λ z10.2 p1 v2) fun z13 => if v3 = (9 : Int32) then (some ((1 : Int32), z13)) else (Option.bind (rf Λ p0 3 0) fun q15 => if clsAt Λ q15 = some 6 then (Option.bind (f_X7_apprentice Λ z13 p1 ((z13.1 p1 2) - (1 : Int32)) v3 (z13.1 q15 4)) fun z17 => some ((1 : Int32), z17.2)) else none)) else none)) else none
def f_X3_readChild (Λ : List Ly) (d : Dt) (p0 : Nat) (p1 : Nat) (v2 : Int32) : Option (Int32 × Dt) := if clsAt Λ p1 = some 7 then (if (d.1 p1 2) < (5 : Int32) then (if clsAt Λ p0 = some 3 then (Option.bind (f_X3_readNumber Λ d p0 (0 : Int32) (9 : Int32)) fun z4 => if z4.1 = 0 then (some ((0 : Int32), z4.2)) else (Option.bind (rf Λ p0 3 0) fun q6 => if clsAt Λ q6 = some 6 then (if (f_X8_isSeason (z4.2.1 q6 4)) = 0 then (if (z4.2.1 q6 4) = (9 : Int32) then (f_X3_readChild_J53 Λ z4.2 p0 p1 v2 (z4.2.1 q6 4)) else (Option.bind (f_X3_fail Λ z4.2 p0 (3 : Int32)) fun z19 => if (z19.1 = 0 ∨ z19.1 = 1) then (some (z19.1, z19.2)) else none)) else (f_X3_readChild_J53 Λ z4.2 p0 p1 v2 (z4.2.1 q6 4))) else none)) else none) else (if clsAt Λ p0 = some 3 then (Option.bind (f_X3_fail Λ d p0 (5 : Int32)) fun z22 => if (z22.1 = 0 ∨ z22.1 = 1) then (some (z22.1, z22.2)) else none) else none)) else none
set_option maxHeartbeats 4000000 in
set_option maxRecDepth 100000 in
theorem w_X3_readChild_J53 {p : Program} {l : Launch} {e : Env} {s : State} {m : MethodId} {args : Array Value} {below : List Frame} {meth : Method} {c : Code} {Γ : Cx} {Λ : List Ly} {z : Int32 × Dt} {d : Dt} (C0 : Ct Γ p s m args c cX3_readChild 4 "SeasonBound$Reader") (hr : meth.sig.returnType = (some FieldType.boolean)) (hlocks : meth.locks = false) (p0 : Nat) (p1 : Nat) (v2 : Int32) (v3 : Int32)
    (hf : f_X3_readChild_J53 Λ d p0 p1 v2 v3 = some z) (H : Heap) (locs : List Loc) (ls : Array Slot) (hH : Hs Γ Λ d s H locs) (hl : lv_has ls 4 [(0, .ref (ad Γ.2.2.1 p0)), (1, .ref (ad Γ.2.2.1 p1)), (2, .int v2), (3, .int v3)]) : W p l e { frames := 4, cells := 0, slots := 0, locals := 82 } s m args below meth c H locs 0 0 (MQ below (QN Γ Λ z.2 (some (.int z.1))) args s 0 0 (AP Γ)) (F0 m 53 ls []) := by
  obtain ⟨hx, hb, hml, hown, hts, hK⟩ := id C0
  unfold f_X3_readChild_J53 at hf
  refine lv_aload_n hx hb dX3_readChild_53 rfl (lv_at hl 0 rfl) ?_
  refine lv_iconst (v := (1 : Int32)) hx hb dX3_readChild_54 (by decide) ?_
  refine lv_bipush (v := (99 : Int32)) hx hb dX3_readChild_55 (by decide) ?_
  obtain ⟨g9, hf⟩ := gd hf
  obtain ⟨z10, h10, hf⟩ := ob hf
  refine r_callVi (rest := []) C0 hH (c_X3_readNumber Γ l Λ d p0 (1 : Int32) (99 : Int32) z10 h10) cv_X3_93 g9 (by decide) rfl hl.1 rfl (Nat.le_of_ble_eq_true rfl) dX3_readChild_57 (by decide) (fun H locs hH => ?_)
  refine lv_if_ne (tgt := 65) hx hb dX3_readChild_60 (by decide) (fun c11 => ?_) (fun c11 => ?_)
  · replace hf := ie hf c11
    refine lv_aload_n hx hb dX3_readChild_65 rfl (lv_at hl 1 rfl) ?_
    refine lv_iload_n hx hb dX3_readChild_66 rfl (lv_at hl 2 rfl) ?_
    obtain ⟨g12, hf⟩ := gd hf
    obtain ⟨z13, h13, hf⟩ := ob hf
    refine r_callVv (rest := []) C0 hH (c_X7_add Γ l Λ z10.2 p1 v2 z13 h13) cv_X3_117 g12 (by decide) rfl hl.1 rfl (Nat.le_of_ble_eq_true rfl) dX3_readChild_67 (by decide) (fun H locs hH => ?_)
    refine lv_iload_n hx hb dX3_readChild_70 rfl (lv_at hl 3 rfl) ?_
    refine lv_bipush (v := (9 : Int32)) hx hb dX3_readChild_71 (by decide) ?_
    refine lv_icmp_eq (tgt := 95) hx hb dX3_readChild_73 (by decide) (fun c14 => ?_) (fun c14 => ?_)
    · replace hf := it hf c14
      refine lv_iconst (v := (1 : Int32)) hx hb dX3_readChild_95 (by decide) ?_
      obtain rfl := Option.some.inj hf
      exact r_iret (d' := d) C0 hr hlocks hH (nz (Or.inr rfl)) dX3_readChild_96
    · replace hf := ie hf c14
      refine lv_aload_n hx hb dX3_readChild_76 rfl (lv_at hl 1 rfl) ?_
      refine lv_aload_n hx hb dX3_readChild_77 rfl (lv_at hl 1 rfl) ?_
      refine r_geti C0 hH fl_X3_111 g12 rfl dX3_readChild_78 ?_
      refine lv_iconst (v := (1 : Int32)) hx hb dX3_readChild_81 (by decide) ?_
      refine lv_isub hx hb dX3_readChild_82 ?_
      refine lv_iload_n hx hb dX3_readChild_83 rfl (lv_at hl 3 rfl) ?_
      refine lv_aload_n hx hb dX3_readChild_84 rfl (lv_at hl 0 rfl) ?_
      obtain ⟨q15, g15, hf⟩ := ob hf
      refine r_getr C0 hH fl_X3_12 g15 dX3_readChild_85 ?_
      obtain ⟨g16, hf⟩ := gd hf
      refine r_geti C0 hH fl_X3_97 g16 rfl dX3_readChild_88 ?_
      obtain ⟨z17, h17, hf⟩ := ob hf
      refine r_callVi (rest := []) C0 hH (c_X7_apprentice Γ l Λ z13 p1 ((z13.1 p1 2) - (1 : Int32)) v3 (z13.1 q15 4) z17 h17) cv_X3_121 g12 (by decide) rfl hl.1 rfl (Nat.le_of_ble_eq_true rfl) dX3_readChild_91 (by decide) (fun H locs hH => ?_)
      refine lv_pop hx hb dX3_readChild_94 rfl ?_
      refine lv_iconst (v := (1 : Int32)) hx hb dX3_readChild_95 (by decide) ?_
      obtain rfl := Option.some.inj hf
      exact r_iret (d' := d) C0 hr hlocks hH (nz (Or.inr rfl)) dX3_readChild_96
  · replace hf := it hf c11
    refine lv_iconst (v := (0 : Int32)) hx hb dX3_readChild_63 (by decide) ?_
    obtain rfl := Option.some.inj hf
    exact r_iret (d' := d) C0 hr hlocks hH (nz (Or.inl rfl)) dX3_readChild_64
set_option maxHeartbeats 4000000 in
set_option maxRecDepth 100000 in
theorem c_X3_readChild (Γ : Cx) (l : Launch) (Λ : List Ly) (d : Dt) (p0 : Nat) (p1 : Nat) (v2 : Int32) (z : Int32 × Dt) (hf : f_X3_readChild Λ d p0 p1 v2 = some z) : Cn Γ l yX3_readChild cX3_readChild 4 (some FieldType.boolean) 4 82 [.ref (ad Γ.2.2.1 p0), .ref (ad Γ.2.2.1 p1), .int v2] Λ d (some (.int z.1)) z.2 := by
  refine Cn.of (own := "SeasonBound$Reader") (by decide +kernel) rfl (Nat.le_of_ble_eq_true rfl) ?_
  intro p e s m below meth c C0 hr hlocks hH ls hl
  have hl : lv_has ls 4 [(0, .ref (ad Γ.2.2.1 p0)), (1, .ref (ad Γ.2.2.1 p1)), (2, .int v2)] := hl
  obtain ⟨hx, hb, hml, hown, hts, hK⟩ := id C0
  unfold f_X3_readChild at hf
  refine lv_aload_n hx hb dX3_readChild_0 rfl (lv_at hl 1 rfl) ?_
  obtain ⟨g1, hf⟩ := gd hf
  refine r_geti C0 hH fl_X3_111 g1 rfl dX3_readChild_1 ?_
  refine lv_iconst (v := (5 : Int32)) hx hb dX3_readChild_4 (by decide) ?_
  refine lv_icmp_lt (tgt := 14) hx hb dX3_readChild_5 (by decide) (fun c2 => ?_) (fun c2 => ?_)
  · replace hf := it hf c2
    refine lv_aload_n hx hb dX3_readChild_14 rfl (lv_at hl 0 rfl) ?_
    refine lv_iconst (v := (0 : Int32)) hx hb dX3_readChild_15 (by decide) ?_
    refine lv_bipush (v := (9 : Int32)) hx hb dX3_readChild_16 (by decide) ?_
    obtain ⟨g3, hf⟩ := gd hf
    obtain ⟨z4, h4, hf⟩ := ob hf
    refine r_callVi (rest := []) C0 hH (c_X3_readNumber Γ l Λ d p0 (0 : Int32) (9 : Int32) z4 h4) cv_X3_93 g3 (by decide) rfl hl.1 rfl (Nat.le_of_ble_eq_true rfl) dX3_readChild_18 (by decide) (fun H locs hH => ?_)
    refine lv_if_ne (tgt := 26) hx hb dX3_readChild_21 (by decide) (fun c5 => ?_) (fun c5 => ?_)
    · replace hf := ie hf c5
      refine lv_aload_n hx hb dX3_readChild_26 rfl (lv_at hl 0 rfl) ?_
      obtain ⟨q6, g6, hf⟩ := ob hf
      refine r_getr C0 hH fl_X3_12 g6 dX3_readChild_27 ?_
      obtain ⟨g7, hf⟩ := gd hf
      refine r_geti C0 hH fl_X3_97 g7 rfl dX3_readChild_30 ?_
      refine lv_istore_n (lv' := [(3, .int (z4.2.1 q6 4)), (0, .ref (ad Γ.2.2.1 p0)), (1, .ref (ad Γ.2.2.1 p1)), (2, .int v2)]) hx hb dX3_readChild_33 rfl hl (by decide) rfl (fun ls hl => ?_)
      refine lv_iload_n hx hb dX3_readChild_34 rfl (lv_at hl 0 rfl) ?_
      refine r_callNi (rest := []) C0 hH (c_X8_isSeason Γ l Λ z4.2 (z4.2.1 q6 4)) cn_X3_114 (by decide) rfl hl.1 rfl (Nat.le_of_ble_eq_true rfl) dX3_readChild_35 (by decide) (fun H locs hH => ?_)
      refine lv_if_ne (tgt := 53) hx hb dX3_readChild_38 (by decide) (fun c8 => ?_) (fun c8 => ?_)
      · replace hf := ie hf c8
        exact w_X3_readChild_J53 C0 hr hlocks p0 p1 v2 (z4.2.1 q6 4) hf _ _ _ hH (lv_sub hl [1, 2, 3, 0] rfl)
      · replace hf := it hf c8
        refine lv_iload_n hx hb dX3_readChild_41 rfl (lv_at hl 0 rfl) ?_
        refine lv_bipush (v := (9 : Int32)) hx hb dX3_readChild_42 (by decide) ?_
        refine lv_icmp_eq (tgt := 53) hx hb dX3_readChild_44 (by decide) (fun c18 => ?_) (fun c18 => ?_)
        · replace hf := it hf c18
          exact w_X3_readChild_J53 C0 hr hlocks p0 p1 v2 (z4.2.1 q6 4) hf _ _ _ hH (lv_sub hl [1, 2, 3, 0] rfl)
        · replace hf := ie hf c18
          refine lv_aload_n hx hb dX3_readChild_47 rfl (lv_at hl 1 rfl) ?_
          refine lv_iconst (v := (3 : Int32)) hx hb dX3_readChild_48 (by decide) ?_
          obtain ⟨z19, h19, hf⟩ := ob hf
          refine r_callVi (rest := []) C0 hH (c_X3_fail Γ l Λ z4.2 p0 (3 : Int32) z19 h19) cv_X3_89 g3 (by decide) rfl hl.1 rfl (Nat.le_of_ble_eq_true rfl) dX3_readChild_49 (by decide) (fun H locs hH => ?_)
          obtain ⟨g20, hf⟩ := gd hf
          obtain rfl := Option.some.inj hf
          exact r_iret (d' := d) C0 hr hlocks hH (nz g20) dX3_readChild_52
    · replace hf := it hf c5
      refine lv_iconst (v := (0 : Int32)) hx hb dX3_readChild_24 (by decide) ?_
      obtain rfl := Option.some.inj hf
      exact r_iret (d' := d) C0 hr hlocks hH (nz (Or.inl rfl)) dX3_readChild_25
  · replace hf := ie hf c2
    refine lv_aload_n hx hb dX3_readChild_8 rfl (lv_at hl 0 rfl) ?_
    refine lv_iconst (v := (5 : Int32)) hx hb dX3_readChild_9 (by decide) ?_
    obtain ⟨g21, hf⟩ := gd hf
    obtain ⟨z22, h22, hf⟩ := ob hf
    refine r_callVi (rest := []) C0 hH (c_X3_fail Γ l Λ d p0 (5 : Int32) z22 h22) cv_X3_89 g21 (by decide) rfl hl.1 rfl (Nat.le_of_ble_eq_true rfl) dX3_readChild_10 (by decide) (fun H locs hH => ?_)
    obtain ⟨g23, hf⟩ := gd hf
    obtain rfl := Option.some.inj hf
    exact r_iret (d' := d) C0 hr hlocks hH (nz g23) dX3_readChild_13
theorem dX3_readStop_0 : decode cX3_readStop 0 = .ok (.aload_n 0, 1) := by decide +kernel
theorem dX3_readStop_1 : decode cX3_readStop 1 = .ok (.getfield 12, 3) := by decide +kernel
theorem dX3_readStop_4 : decode cX3_readStop 4 = .ok (.invokevirtual 33, 3) := by decide +kernel
theorem dX3_readStop_7 : decode cX3_readStop 7 = .ok (.aload_n 0, 1) := by decide +kernel
theorem dX3_readStop_8 : decode cX3_readStop 8 = .ok (.getfield 12, 3) := by decide +kernel
theorem dX3_readStop_11 : decode cX3_readStop 11 = .ok (.getfield 36, 3) := by decide +kernel
theorem dX3_readStop_14 : decode cX3_readStop 14 = .ok (.iconst 4, 1) := by decide +kernel
theorem dX3_readStop_15 : decode cX3_readStop 15 = .ok (.if_icmp .eq 10, 3) := by decide +kernel
theorem dX3_readStop_18 : decode cX3_readStop 18 = .ok (.aload_n 0, 1) := by decide +kernel
theorem dX3_readStop_19 : decode cX3_readStop 19 = .ok (.invokevirtual 70, 3) := by decide +kernel
theorem dX3_readStop_22 : decode cX3_readStop 22 = .ok (.ifCond .eq 7, 3) := by decide +kernel
theorem dX3_readStop_25 : decode cX3_readStop 25 = .ok (.iconst 1, 1) := by decide +kernel
theorem dX3_readStop_26 : decode cX3_readStop 26 = .ok (.goto 4, 3) := by decide +kernel
theorem dX3_readStop_29 : decode cX3_readStop 29 = .ok (.iconst 0, 1) := by decide +kernel
theorem dX3_readStop_30 : decode cX3_readStop 30 = .ok (.ireturn, 1) := by decide +kernel
def f_X3_readStop (Λ : List Ly) (d : Dt) (p0 : Nat) : Option (Int32 × Dt) := Option.bind (rf Λ p0 3 0) fun q1 => if clsAt Λ q1 = some 6 then (Option.bind (f_X6_readToken Λ d q1) fun z3 => if (z3.1 q1 2) = (4 : Int32) then (some ((1 : Int32), z3)) else (if clsAt Λ p0 = some 3 then (Option.bind (f_X3_failAtToken Λ z3 p0) fun z6 => if z6.1 = 0 then (some ((0 : Int32), z6.2)) else (some ((1 : Int32), z6.2))) else none)) else none
set_option maxHeartbeats 4000000 in
set_option maxRecDepth 100000 in
theorem c_X3_readStop (Γ : Cx) (l : Launch) (Λ : List Ly) (d : Dt) (p0 : Nat) (z : Int32 × Dt) (hf : f_X3_readStop Λ d p0 = some z) : Cn Γ l yX3_readStop cX3_readStop 1 (some FieldType.boolean) 3 60 [.ref (ad Γ.2.2.1 p0)] Λ d (some (.int z.1)) z.2 := by
  refine Cn.of (own := "SeasonBound$Reader") (by decide +kernel) rfl (Nat.le_of_ble_eq_true rfl) ?_
  intro p e s m below meth c C0 hr hlocks hH ls hl
  have hl : lv_has ls 1 [(0, .ref (ad Γ.2.2.1 p0))] := hl
  obtain ⟨hx, hb, hml, hown, hts, hK⟩ := id C0
  unfold f_X3_readStop at hf
  refine lv_aload_n hx hb dX3_readStop_0 rfl (lv_at hl 0 rfl) ?_
  obtain ⟨q1, g1, hf⟩ := ob hf
  refine r_getr C0 hH fl_X3_12 g1 dX3_readStop_1 ?_
  obtain ⟨g2, hf⟩ := gd hf
  obtain ⟨z3, h3, hf⟩ := ob hf
  refine r_callVv (rest := []) C0 hH (c_X6_readToken Γ l Λ d q1 z3 h3) cv_X3_33 g2 (by decide) rfl hl.1 rfl (Nat.le_of_ble_eq_true rfl) dX3_readStop_4 (by decide) (fun H locs hH => ?_)
  refine lv_aload_n hx hb dX3_readStop_7 rfl (lv_at hl 0 rfl) ?_
  refine r_getr C0 hH fl_X3_12 g1 dX3_readStop_8 ?_
  refine r_geti C0 hH fl_X3_36 g2 rfl dX3_readStop_11 ?_
  refine lv_iconst (v := (4 : Int32)) hx hb dX3_readStop_14 (by decide) ?_
  refine lv_icmp_eq (tgt := 25) hx hb dX3_readStop_15 (by decide) (fun c4 => ?_) (fun c4 => ?_)
  · replace hf := it hf c4
    refine lv_iconst (v := (1 : Int32)) hx hb dX3_readStop_25 (by decide) ?_
    refine lv_goto (tgt := 30) hx hb dX3_readStop_26 (by decide) ?_
    obtain rfl := Option.some.inj hf
    exact r_iret (d' := d) C0 hr hlocks hH (nz (Or.inr rfl)) dX3_readStop_30
  · replace hf := ie hf c4
    refine lv_aload_n hx hb dX3_readStop_18 rfl (lv_at hl 0 rfl) ?_
    obtain ⟨g5, hf⟩ := gd hf
    obtain ⟨z6, h6, hf⟩ := ob hf
    refine r_callVi (rest := []) C0 hH (c_X3_failAtToken Γ l Λ z3 p0 z6 h6) cv_X3_70 g5 (by decide) rfl hl.1 rfl (Nat.le_of_ble_eq_true rfl) dX3_readStop_19 (by decide) (fun H locs hH => ?_)
    refine lv_if_eq (tgt := 29) hx hb dX3_readStop_22 (by decide) (fun c7 => ?_) (fun c7 => ?_)
    · replace hf := it hf c7
      refine lv_iconst (v := (0 : Int32)) hx hb dX3_readStop_29 (by decide) ?_
      obtain rfl := Option.some.inj hf
      exact r_iret (d' := d) C0 hr hlocks hH (nz (Or.inl rfl)) dX3_readStop_30
    · replace hf := ie hf c7
      refine lv_iconst (v := (1 : Int32)) hx hb dX3_readStop_25 (by decide) ?_
      refine lv_goto (tgt := 30) hx hb dX3_readStop_26 (by decide) ?_
      obtain rfl := Option.some.inj hf
      exact r_iret (d' := d) C0 hr hlocks hH (nz (Or.inr rfl)) dX3_readStop_30
theorem dX3_readLine_0 : decode cX3_readLine 0 = .ok (.iconst 0, 1) := by decide +kernel
theorem dX3_readLine_1 : decode cX3_readLine 1 = .ok (.istore_n 2, 1) := by decide +kernel
theorem dX3_readLine_2 : decode cX3_readLine 2 = .ok (.iload_n 2, 1) := by decide +kernel
theorem dX3_readLine_3 : decode cX3_readLine 3 = .ok (.bipush 8, 2) := by decide +kernel
theorem dX3_readLine_5 : decode cX3_readLine 5 = .ok (.if_icmp .ge 69, 3) := by decide +kernel
theorem dX3_readLine_8 : decode cX3_readLine 8 = .ok (.aload_n 0, 1) := by decide +kernel
theorem dX3_readLine_9 : decode cX3_readLine 9 = .ok (.getfield 12, 3) := by decide +kernel
theorem dX3_readLine_12 : decode cX3_readLine 12 = .ok (.iload_n 2, 1) := by decide +kernel
theorem dX3_readLine_13 : decode cX3_readLine 13 = .ok (.invokestatic 46, 3) := by decide +kernel
theorem dX3_readLine_16 : decode cX3_readLine 16 = .ok (.invokevirtual 50, 3) := by decide +kernel
theorem dX3_readLine_19 : decode cX3_readLine 19 = .ok (.ifCond .eq 49, 3) := by decide +kernel
theorem dX3_readLine_22 : decode cX3_readLine 22 = .ok (.iload_n 2, 1) := by decide +kernel
theorem dX3_readLine_23 : decode cX3_readLine 23 = .ok (.iconst 4, 1) := by decide +kernel
theorem dX3_readLine_24 : decode cX3_readLine 24 = .ok (.if_icmp .ge 20, 3) := by decide +kernel
theorem dX3_readLine_27 : decode cX3_readLine 27 = .ok (.aload_n 0, 1) := by decide +kernel
theorem dX3_readLine_28 : decode cX3_readLine 28 = .ok (.aload_n 1, 1) := by decide +kernel
theorem dX3_readLine_29 : decode cX3_readLine 29 = .ok (.getfield 54, 3) := by decide +kernel
theorem dX3_readLine_32 : decode cX3_readLine 32 = .ok (.iload_n 2, 1) := by decide +kernel
theorem dX3_readLine_33 : decode cX3_readLine 33 = .ok (.aaload, 1) := by decide +kernel
theorem dX3_readLine_34 : decode cX3_readLine 34 = .ok (.iload_n 2, 1) := by decide +kernel
theorem dX3_readLine_35 : decode cX3_readLine 35 = .ok (.invokevirtual 58, 3) := by decide +kernel
theorem dX3_readLine_38 : decode cX3_readLine 38 = .ok (.ifCond .eq 28, 3) := by decide +kernel
theorem dX3_readLine_41 : decode cX3_readLine 41 = .ok (.goto 14, 3) := by decide +kernel
theorem dX3_readLine_44 : decode cX3_readLine 44 = .ok (.aload_n 0, 1) := by decide +kernel
theorem dX3_readLine_45 : decode cX3_readLine 45 = .ok (.aload_n 1, 1) := by decide +kernel
theorem dX3_readLine_46 : decode cX3_readLine 46 = .ok (.iload_n 2, 1) := by decide +kernel
theorem dX3_readLine_47 : decode cX3_readLine 47 = .ok (.iconst 4, 1) := by decide +kernel
theorem dX3_readLine_48 : decode cX3_readLine 48 = .ok (.isub, 1) := by decide +kernel
theorem dX3_readLine_49 : decode cX3_readLine 49 = .ok (.invokevirtual 62, 3) := by decide +kernel
theorem dX3_readLine_52 : decode cX3_readLine 52 = .ok (.ifCond .eq 14, 3) := by decide +kernel
theorem dX3_readLine_55 : decode cX3_readLine 55 = .ok (.aload_n 0, 1) := by decide +kernel
theorem dX3_readLine_56 : decode cX3_readLine 56 = .ok (.invokevirtual 66, 3) := by decide +kernel
theorem dX3_readLine_59 : decode cX3_readLine 59 = .ok (.ifCond .eq 7, 3) := by decide +kernel
theorem dX3_readLine_62 : decode cX3_readLine 62 = .ok (.iconst 1, 1) := by decide +kernel
theorem dX3_readLine_63 : decode cX3_readLine 63 = .ok (.goto 4, 3) := by decide +kernel
theorem dX3_readLine_66 : decode cX3_readLine 66 = .ok (.iconst 0, 1) := by decide +kernel
theorem dX3_readLine_67 : decode cX3_readLine 67 = .ok (.ireturn, 1) := by decide +kernel
theorem dX3_readLine_68 : decode cX3_readLine 68 = .ok (.iinc 2 1, 3) := by decide +kernel
theorem dX3_readLine_71 : decode cX3_readLine 71 = .ok (.goto (-69), 3) := by decide +kernel
theorem dX3_readLine_74 : decode cX3_readLine 74 = .ok (.aload_n 0, 1) := by decide +kernel
theorem dX3_readLine_75 : decode cX3_readLine 75 = .ok (.invokevirtual 70, 3) := by decide +kernel
theorem dX3_readLine_78 : decode cX3_readLine 78 = .ok (.ireturn, 1) := by decide +kernel
def f_X3_readLine_L2 (Λ : List Ly) (p0 : Nat) (p1 : Nat) : Nat → Int32 → Dt → Option (Int32 × Dt)
  | 0, _, _ => none
  | n + 1, v2, d => if (8 : Int32) ≤ v2 then (if clsAt Λ p0 = some 3 then (Option.bind (f_X3_failAtToken Λ d p0) fun z3 => if (z3.1 = 0 ∨ z3.1 = 1) then (some (z3.1, z3.2)) else none) else none) else (Option.bind (rf Λ p0 3 0) fun q5 => if clsAt Λ q5 = some 6 then (Option.bind (f_X6_isNamed Λ d q5 (f_X3_nameOf v2)) fun z7 => if z7 = 0 then (f_X3_readLine_L2 Λ p0 p1 n (v2 + (1 : Int32)) d) else (if (4 : Int32) ≤ v2 then (if clsAt Λ p0 = some 3 then (Option.bind (f_X3_readChild Λ d p0 p1 (v2 - (4 : Int32))) fun z11 => if z11.1 = 0 then (some ((0 : Int32), z11.2)) else (Option.bind (f_X3_readStop Λ z11.2 p0) fun z13 => if z13.1 = 0 then (some ((0 : Int32), z13.2)) else (some ((1 : Int32), z13.2)))) else none) else (Option.bind (rf Λ p1 7 0) fun q15 => Option.bind (ra Λ q15 5 v2) fun q16 => if clsAt Λ p0 = some 3 then (Option.bind (f_X3_readSeason Λ d p0 q16 v2) fun z18 => if z18.1 = 0 then (some ((0 : Int32), z18.2)) else (Option.bind (f_X3_readStop Λ z18.2 p0) fun z20 => if z20.1 = 0 then (some ((0 : Int32), z20.2)) else (some ((1 : Int32), z20.2)))) else none))) else none)
def f_X3_readLine (Λ : List Ly) (d : Dt) (p0 : Nat) (p1 : Nat) : Option (Int32 × Dt) := f_X3_readLine_L2 Λ p0 p1 FU (0 : Int32) d
set_option maxHeartbeats 4000000 in
set_option maxRecDepth 100000 in
theorem w_X3_readLine_L2 {p : Program} {l : Launch} {e : Env} {s : State} {m : MethodId} {args : Array Value} {below : List Frame} {meth : Method} {c : Code} {Γ : Cx} {Λ : List Ly} {z : Int32 × Dt} (C0 : Ct Γ p s m args c cX3_readLine 3 "SeasonBound$Reader") (hr : meth.sig.returnType = (some FieldType.boolean)) (hlocks : meth.locks = false) (p0 : Nat) (p1 : Nat) :
    ∀ (n : Nat) (v2 : Int32) (d : Dt), f_X3_readLine_L2 Λ p0 p1 n v2 d = some z → ∀ (H : Heap) (locs : List Loc) (ls : Array Slot), Hs Γ Λ d s H locs → lv_has ls 3 [(0, .ref (ad Γ.2.2.1 p0)), (1, .ref (ad Γ.2.2.1 p1)), (2, .int v2)] → W p l e { frames := 6, cells := 0, slots := 0, locals := 128 } s m args below meth c H locs 0 0 (MQ below (QN Γ Λ z.2 (some (.int z.1))) args s 0 0 (AP Γ)) (F0 m 2 ls []) := by
  obtain ⟨hx, hb, hml, hown, hts, hK⟩ := id C0
  intro n
  induction n with
  | zero =>
    intro v2 d hf
    cases hf
  | succ n ih =>
    intro v2 d hf H locs ls hH hl
    unfold f_X3_readLine_L2 at hf
    refine lv_iload_n hx hb dX3_readLine_2 rfl (lv_at hl 2 rfl) ?_
    refine lv_bipush (v := (8 : Int32)) hx hb dX3_readLine_3 (by decide) ?_
    refine lv_icmp_ge (tgt := 74) hx hb dX3_readLine_5 (by decide) (fun c1 => ?_) (fun c1 => ?_)
    · replace hf := it hf c1
      refine lv_aload_n hx hb dX3_readLine_74 rfl (lv_at hl 0 rfl) ?_
      obtain ⟨g2, hf⟩ := gd hf
      obtain ⟨z3, h3, hf⟩ := ob hf
      refine r_callVi (rest := []) C0 hH (c_X3_failAtToken Γ l Λ d p0 z3 h3) cv_X3_70 g2 (by decide) rfl hl.1 rfl (Nat.le_of_ble_eq_true rfl) dX3_readLine_75 (by decide) (fun H locs hH => ?_)
      obtain ⟨g4, hf⟩ := gd hf
      obtain rfl := Option.some.inj hf
      exact r_iret (d' := d) C0 hr hlocks hH (nz g4) dX3_readLine_78
    · replace hf := ie hf c1
      refine lv_aload_n hx hb dX3_readLine_8 rfl (lv_at hl 0 rfl) ?_
      obtain ⟨q5, g5, hf⟩ := ob hf
      refine r_getr C0 hH fl_X3_12 g5 dX3_readLine_9 ?_
      refine lv_iload_n hx hb dX3_readLine_12 rfl (lv_at hl 2 rfl) ?_
      refine r_callSs (rest := [.ref (ad Γ.2.2.1 q5)]) C0 hH (c_X3_nameOf Γ l Λ d v2) cs_X3_46 (by decide) rfl hl.1 rfl (Nat.le_of_ble_eq_true rfl) dX3_readLine_13 (by decide) (fun H locs hH => ?_)
      obtain ⟨g6, hf⟩ := gd hf
      obtain ⟨z7, h7, hf⟩ := ob hf
      refine r_callVi (rest := []) C0 hH (c_X6_isNamed Γ l Λ d q5 (f_X3_nameOf v2) z7 h7) cv_X3_50 g6 (by decide) rfl hl.1 rfl (Nat.le_of_ble_eq_true rfl) dX3_readLine_16 (by decide) (fun H locs hH => ?_)
      refine lv_if_eq (tgt := 68) hx hb dX3_readLine_19 (by decide) (fun c8 => ?_) (fun c8 => ?_)
      · replace hf := it hf c8
        refine lv_iinc (v := (v2 + (1 : Int32))) (lv' := [(2, .int (v2 + (1 : Int32))), (0, .ref (ad Γ.2.2.1 p0)), (1, .ref (ad Γ.2.2.1 p1))]) hx hb dX3_readLine_68 hl (k := 2) rfl (congrArg (fun w => v2 + w) (by decide)) (by decide) rfl (fun ls hl => ?_)
        refine lv_goto (tgt := 2) hx hb dX3_readLine_71 (by decide) ?_
        exact ih (v2 + (1 : Int32)) d hf _ _ _ hH (lv_sub hl [1, 2, 0] rfl)
      · replace hf := ie hf c8
        refine lv_iload_n hx hb dX3_readLine_22 rfl (lv_at hl 2 rfl) ?_
        refine lv_iconst (v := (4 : Int32)) hx hb dX3_readLine_23 (by decide) ?_
        refine lv_icmp_ge (tgt := 44) hx hb dX3_readLine_24 (by decide) (fun c9 => ?_) (fun c9 => ?_)
        · replace hf := it hf c9
          refine lv_aload_n hx hb dX3_readLine_44 rfl (lv_at hl 0 rfl) ?_
          refine lv_aload_n hx hb dX3_readLine_45 rfl (lv_at hl 1 rfl) ?_
          refine lv_iload_n hx hb dX3_readLine_46 rfl (lv_at hl 2 rfl) ?_
          refine lv_iconst (v := (4 : Int32)) hx hb dX3_readLine_47 (by decide) ?_
          refine lv_isub hx hb dX3_readLine_48 ?_
          obtain ⟨g10, hf⟩ := gd hf
          obtain ⟨z11, h11, hf⟩ := ob hf
          refine r_callVi (rest := []) C0 hH (c_X3_readChild Γ l Λ d p0 p1 (v2 - (4 : Int32)) z11 h11) cv_X3_62 g10 (by decide) rfl hl.1 rfl (Nat.le_of_ble_eq_true rfl) dX3_readLine_49 (by decide) (fun H locs hH => ?_)
          refine lv_if_eq (tgt := 66) hx hb dX3_readLine_52 (by decide) (fun c12 => ?_) (fun c12 => ?_)
          · replace hf := it hf c12
            refine lv_iconst (v := (0 : Int32)) hx hb dX3_readLine_66 (by decide) ?_
            obtain rfl := Option.some.inj hf
            exact r_iret (d' := d) C0 hr hlocks hH (nz (Or.inl rfl)) dX3_readLine_67
          · replace hf := ie hf c12
            refine lv_aload_n hx hb dX3_readLine_55 rfl (lv_at hl 0 rfl) ?_
            obtain ⟨z13, h13, hf⟩ := ob hf
            refine r_callVi (rest := []) C0 hH (c_X3_readStop Γ l Λ z11.2 p0 z13 h13) cv_X3_66 g10 (by decide) rfl hl.1 rfl (Nat.le_of_ble_eq_true rfl) dX3_readLine_56 (by decide) (fun H locs hH => ?_)
            refine lv_if_eq (tgt := 66) hx hb dX3_readLine_59 (by decide) (fun c14 => ?_) (fun c14 => ?_)
            · replace hf := it hf c14
              refine lv_iconst (v := (0 : Int32)) hx hb dX3_readLine_66 (by decide) ?_
              obtain rfl := Option.some.inj hf
              exact r_iret (d' := d) C0 hr hlocks hH (nz (Or.inl rfl)) dX3_readLine_67
            · replace hf := ie hf c14
              refine lv_iconst (v := (1 : Int32)) hx hb dX3_readLine_62 (by decide) ?_
              refine lv_goto (tgt := 67) hx hb dX3_readLine_63 (by decide) ?_
              obtain rfl := Option.some.inj hf
              exact r_iret (d' := d) C0 hr hlocks hH (nz (Or.inr rfl)) dX3_readLine_67
        · replace hf := ie hf c9
          refine lv_aload_n hx hb dX3_readLine_27 rfl (lv_at hl 0 rfl) ?_
          refine lv_aload_n hx hb dX3_readLine_28 rfl (lv_at hl 1 rfl) ?_
          obtain ⟨q15, g15, hf⟩ := ob hf
          refine r_getr C0 hH fl_X3_54 g15 dX3_readLine_29 ?_
          refine lv_iload_n hx hb dX3_readLine_32 rfl (lv_at hl 2 rfl) ?_
          obtain ⟨q16, g16, hf⟩ := ob hf
          refine r_aald (C := "SeasonBound$Season") C0 hH g16 (by decide) rfl dX3_readLine_33 ?_
          refine lv_iload_n hx hb dX3_readLine_34 rfl (lv_at hl 2 rfl) ?_
          obtain ⟨g17, hf⟩ := gd hf
          obtain ⟨z18, h18, hf⟩ := ob hf
          refine r_callVi (rest := []) C0 hH (c_X3_readSeason Γ l Λ d p0 q16 v2 z18 h18) cv_X3_58 g17 (by decide) rfl hl.1 rfl (Nat.le_of_ble_eq_true rfl) dX3_readLine_35 (by decide) (fun H locs hH => ?_)
          refine lv_if_eq (tgt := 66) hx hb dX3_readLine_38 (by decide) (fun c19 => ?_) (fun c19 => ?_)
          · replace hf := it hf c19
            refine lv_iconst (v := (0 : Int32)) hx hb dX3_readLine_66 (by decide) ?_
            obtain rfl := Option.some.inj hf
            exact r_iret (d' := d) C0 hr hlocks hH (nz (Or.inl rfl)) dX3_readLine_67
          · replace hf := ie hf c19
            refine lv_goto (tgt := 55) hx hb dX3_readLine_41 (by decide) ?_
            refine lv_aload_n hx hb dX3_readLine_55 rfl (lv_at hl 0 rfl) ?_
            obtain ⟨z20, h20, hf⟩ := ob hf
            refine r_callVi (rest := []) C0 hH (c_X3_readStop Γ l Λ z18.2 p0 z20 h20) cv_X3_66 g17 (by decide) rfl hl.1 rfl (Nat.le_of_ble_eq_true rfl) dX3_readLine_56 (by decide) (fun H locs hH => ?_)
            refine lv_if_eq (tgt := 66) hx hb dX3_readLine_59 (by decide) (fun c21 => ?_) (fun c21 => ?_)
            · replace hf := it hf c21
              refine lv_iconst (v := (0 : Int32)) hx hb dX3_readLine_66 (by decide) ?_
              obtain rfl := Option.some.inj hf
              exact r_iret (d' := d) C0 hr hlocks hH (nz (Or.inl rfl)) dX3_readLine_67
            · replace hf := ie hf c21
              refine lv_iconst (v := (1 : Int32)) hx hb dX3_readLine_62 (by decide) ?_
              refine lv_goto (tgt := 67) hx hb dX3_readLine_63 (by decide) ?_
              obtain rfl := Option.some.inj hf
              exact r_iret (d' := d) C0 hr hlocks hH (nz (Or.inr rfl)) dX3_readLine_67
set_option maxHeartbeats 4000000 in
set_option maxRecDepth 100000 in
theorem c_X3_readLine (Γ : Cx) (l : Launch) (Λ : List Ly) (d : Dt) (p0 : Nat) (p1 : Nat) (z : Int32 × Dt) (hf : f_X3_readLine Λ d p0 p1 = some z) : Cn Γ l yX3_readLine cX3_readLine 3 (some FieldType.boolean) 6 128 [.ref (ad Γ.2.2.1 p0), .ref (ad Γ.2.2.1 p1)] Λ d (some (.int z.1)) z.2 := by
  refine Cn.of (own := "SeasonBound$Reader") (by decide +kernel) rfl (Nat.le_of_ble_eq_true rfl) ?_
  intro p e s m below meth c C0 hr hlocks hH ls hl
  have hl : lv_has ls 3 [(0, .ref (ad Γ.2.2.1 p0)), (1, .ref (ad Γ.2.2.1 p1))] := hl
  obtain ⟨hx, hb, hml, hown, hts, hK⟩ := id C0
  unfold f_X3_readLine at hf
  refine lv_iconst (v := (0 : Int32)) hx hb dX3_readLine_0 (by decide) ?_
  refine lv_istore_n (lv' := [(2, .int (0 : Int32)), (0, .ref (ad Γ.2.2.1 p0)), (1, .ref (ad Γ.2.2.1 p1))]) hx hb dX3_readLine_1 rfl hl (by decide) rfl (fun ls hl => ?_)
  refine w_X3_readLine_L2 C0 hr hlocks p0 p1 FU (0 : Int32) d hf _ _ _ hH (lv_sub hl [1, 2, 0] rfl)
theorem dX3_readAll_0 : decode cX3_readAll 0 = .ok (.aload_n 1, 1) := by decide +kernel
theorem dX3_readAll_1 : decode cX3_readAll 1 = .ok (.invokevirtual 18, 3) := by decide +kernel
theorem dX3_readAll_4 : decode cX3_readAll 4 = .ok (.aload_n 0, 1) := by decide +kernel
theorem dX3_readAll_5 : decode cX3_readAll 5 = .ok (.getfield 12, 3) := by decide +kernel
theorem dX3_readAll_8 : decode cX3_readAll 8 = .ok (.invokevirtual 23, 3) := by decide +kernel
theorem dX3_readAll_11 : decode cX3_readAll 11 = .ok (.aload_n 0, 1) := by decide +kernel
theorem dX3_readAll_12 : decode cX3_readAll 12 = .ok (.iconst 0, 1) := by decide +kernel
theorem dX3_readAll_13 : decode cX3_readAll 13 = .ok (.putfield 26, 3) := by decide +kernel
theorem dX3_readAll_16 : decode cX3_readAll 16 = .ok (.aload_n 0, 1) := by decide +kernel
theorem dX3_readAll_17 : decode cX3_readAll 17 = .ok (.iconst 0, 1) := by decide +kernel
theorem dX3_readAll_18 : decode cX3_readAll 18 = .ok (.putfield 30, 3) := by decide +kernel
theorem dX3_readAll_21 : decode cX3_readAll 21 = .ok (.iconst 0, 1) := by decide +kernel
theorem dX3_readAll_22 : decode cX3_readAll 22 = .ok (.istore_n 2, 1) := by decide +kernel
theorem dX3_readAll_23 : decode cX3_readAll 23 = .ok (.aload_n 0, 1) := by decide +kernel
theorem dX3_readAll_24 : decode cX3_readAll 24 = .ok (.getfield 12, 3) := by decide +kernel
theorem dX3_readAll_27 : decode cX3_readAll 27 = .ok (.invokevirtual 33, 3) := by decide +kernel
theorem dX3_readAll_30 : decode cX3_readAll 30 = .ok (.iload_n 2, 1) := by decide +kernel
theorem dX3_readAll_31 : decode cX3_readAll 31 = .ok (.sipush 160, 3) := by decide +kernel
theorem dX3_readAll_34 : decode cX3_readAll 34 = .ok (.if_icmp .ge 34, 3) := by decide +kernel
theorem dX3_readAll_37 : decode cX3_readAll 37 = .ok (.aload_n 0, 1) := by decide +kernel
theorem dX3_readAll_38 : decode cX3_readAll 38 = .ok (.getfield 12, 3) := by decide +kernel
theorem dX3_readAll_41 : decode cX3_readAll 41 = .ok (.getfield 36, 3) := by decide +kernel
theorem dX3_readAll_44 : decode cX3_readAll 44 = .ok (.ifCond .eq 24, 3) := by decide +kernel
theorem dX3_readAll_47 : decode cX3_readAll 47 = .ok (.aload_n 0, 1) := by decide +kernel
theorem dX3_readAll_48 : decode cX3_readAll 48 = .ok (.aload_n 1, 1) := by decide +kernel
theorem dX3_readAll_49 : decode cX3_readAll 49 = .ok (.invokevirtual 39, 3) := by decide +kernel
theorem dX3_readAll_52 : decode cX3_readAll 52 = .ok (.ifCond .eq 16, 3) := by decide +kernel
theorem dX3_readAll_55 : decode cX3_readAll 55 = .ok (.iinc 2 1, 3) := by decide +kernel
theorem dX3_readAll_58 : decode cX3_readAll 58 = .ok (.aload_n 0, 1) := by decide +kernel
theorem dX3_readAll_59 : decode cX3_readAll 59 = .ok (.getfield 12, 3) := by decide +kernel
theorem dX3_readAll_62 : decode cX3_readAll 62 = .ok (.invokevirtual 33, 3) := by decide +kernel
theorem dX3_readAll_65 : decode cX3_readAll 65 = .ok (.goto (-35), 3) := by decide +kernel
theorem dX3_readAll_68 : decode cX3_readAll 68 = .ok (.aload_n 1, 1) := by decide +kernel
theorem dX3_readAll_69 : decode cX3_readAll 69 = .ok (.invokevirtual 43, 3) := by decide +kernel
theorem dX3_readAll_72 : decode cX3_readAll 72 = .ok (.iload_n 2, 1) := by decide +kernel
theorem dX3_readAll_73 : decode cX3_readAll 73 = .ok (.ireturn, 1) := by decide +kernel
def f_X3_readAll_L30 (Λ : List Ly) (p0 : Nat) (p1 : Nat) : Nat → Int32 → Dt → Option (Int32 × Dt)
  | 0, _, _ => none
  | n + 1, v2, d => if (160 : Int32) ≤ v2 then (if clsAt Λ p1 = some 7 then (Option.bind (f_X7_beginAtSpring Λ d p1) fun z10 => some (v2, z10)) else none) else (Option.bind (rf Λ p0 3 0) fun q11 => if clsAt Λ q11 = some 6 then (if (d.1 q11 2) = 0 then (if clsAt Λ p1 = some 7 then (Option.bind (f_X7_beginAtSpring Λ d p1) fun z15 => some (v2, z15)) else none) else (if clsAt Λ p0 = some 3 then (Option.bind (f_X3_readLine Λ d p0 p1) fun z17 => if z17.1 = 0 then (if clsAt Λ p1 = some 7 then (Option.bind (f_X7_beginAtSpring Λ z17.2 p1) fun z20 => some (v2, z20)) else none) else (Option.bind (f_X6_readToken Λ z17.2 q11) fun z21 => f_X3_readAll_L30 Λ p0 p1 n (v2 + (1 : Int32)) z21)) else none)) else none)
def f_X3_readAll (Λ : List Ly) (d : Dt) (p0 : Nat) (p1 : Nat) : Option (Int32 × Dt) := if clsAt Λ p1 = some 7 then (Option.bind (f_X7_renew Λ d p1) fun z2 => Option.bind (rf Λ p0 3 0) fun q3 => if clsAt Λ q3 = some 6 then (Option.bind (f_X6_rewind Λ z2 q3) fun z5 => if clsAt Λ p0 = some 3 then (Option.bind (f_X6_readToken Λ (pI (pI z5 p0 1 (0 : Int32)) p0 2 (0 : Int32)) q3) fun z7 => f_X3_readAll_L30 Λ p0 p1 FU (0 : Int32) z7) else none) else none) else none
set_option maxHeartbeats 4000000 in
set_option maxRecDepth 100000 in
theorem w_X3_readAll_L30 {p : Program} {l : Launch} {e : Env} {s : State} {m : MethodId} {args : Array Value} {below : List Frame} {meth : Method} {c : Code} {Γ : Cx} {Λ : List Ly} {z : Int32 × Dt} (C0 : Ct Γ p s m args c cX3_readAll 3 "SeasonBound$Reader") (hr : meth.sig.returnType = (some FieldType.int)) (hlocks : meth.locks = false) (p0 : Nat) (p1 : Nat) :
    ∀ (n : Nat) (v2 : Int32) (d : Dt), f_X3_readAll_L30 Λ p0 p1 n v2 d = some z → ∀ (H : Heap) (locs : List Loc) (ls : Array Slot), Hs Γ Λ d s H locs → lv_has ls 3 [(0, .ref (ad Γ.2.2.1 p0)), (1, .ref (ad Γ.2.2.1 p1)), (2, .int v2)] → W p l e { frames := 7, cells := 0, slots := 0, locals := 150 } s m args below meth c H locs 0 0 (MQ below (QN Γ Λ z.2 (some (.int z.1))) args s 0 0 (AP Γ)) (F0 m 30 ls []) := by
  obtain ⟨hx, hb, hml, hown, hts, hK⟩ := id C0
  intro n
  induction n with
  | zero =>
    intro v2 d hf
    cases hf
  | succ n ih =>
    intro v2 d hf H locs ls hH hl
    unfold f_X3_readAll_L30 at hf
    refine lv_iload_n hx hb dX3_readAll_30 rfl (lv_at hl 2 rfl) ?_
    refine lv_sipush (v := (160 : Int32)) hx hb dX3_readAll_31 (by decide) ?_
    refine lv_icmp_ge (tgt := 68) hx hb dX3_readAll_34 (by decide) (fun c8 => ?_) (fun c8 => ?_)
    · replace hf := it hf c8
      refine lv_aload_n hx hb dX3_readAll_68 rfl (lv_at hl 1 rfl) ?_
      obtain ⟨g9, hf⟩ := gd hf
      obtain ⟨z10, h10, hf⟩ := ob hf
      refine r_callVv (rest := []) C0 hH (c_X7_beginAtSpring Γ l Λ d p1 z10 h10) cv_X3_43 g9 (by decide) rfl hl.1 rfl (Nat.le_of_ble_eq_true rfl) dX3_readAll_69 (by decide) (fun H locs hH => ?_)
      refine lv_iload_n hx hb dX3_readAll_72 rfl (lv_at hl 2 rfl) ?_
      obtain rfl := Option.some.inj hf
      exact r_iret (d' := d) C0 hr hlocks hH rfl dX3_readAll_73
    · replace hf := ie hf c8
      refine lv_aload_n hx hb dX3_readAll_37 rfl (lv_at hl 0 rfl) ?_
      obtain ⟨q11, g11, hf⟩ := ob hf
      refine r_getr C0 hH fl_X3_12 g11 dX3_readAll_38 ?_
      obtain ⟨g12, hf⟩ := gd hf
      refine r_geti C0 hH fl_X3_36 g12 rfl dX3_readAll_41 ?_
      refine lv_if_eq (tgt := 68) hx hb dX3_readAll_44 (by decide) (fun c13 => ?_) (fun c13 => ?_)
      · replace hf := it hf c13
        refine lv_aload_n hx hb dX3_readAll_68 rfl (lv_at hl 1 rfl) ?_
        obtain ⟨g14, hf⟩ := gd hf
        obtain ⟨z15, h15, hf⟩ := ob hf
        refine r_callVv (rest := []) C0 hH (c_X7_beginAtSpring Γ l Λ d p1 z15 h15) cv_X3_43 g14 (by decide) rfl hl.1 rfl (Nat.le_of_ble_eq_true rfl) dX3_readAll_69 (by decide) (fun H locs hH => ?_)
        refine lv_iload_n hx hb dX3_readAll_72 rfl (lv_at hl 2 rfl) ?_
        obtain rfl := Option.some.inj hf
        exact r_iret (d' := d) C0 hr hlocks hH rfl dX3_readAll_73
      · replace hf := ie hf c13
        refine lv_aload_n hx hb dX3_readAll_47 rfl (lv_at hl 0 rfl) ?_
        refine lv_aload_n hx hb dX3_readAll_48 rfl (lv_at hl 1 rfl) ?_
        obtain ⟨g16, hf⟩ := gd hf
        obtain ⟨z17, h17, hf⟩ := ob hf
        refine r_callVi (rest := []) C0 hH (c_X3_readLine Γ l Λ d p0 p1 z17 h17) cv_X3_39 g16 (by decide) rfl hl.1 rfl (Nat.le_of_ble_eq_true rfl) dX3_readAll_49 (by decide) (fun H locs hH => ?_)
        refine lv_if_eq (tgt := 68) hx hb dX3_readAll_52 (by decide) (fun c18 => ?_) (fun c18 => ?_)
        · replace hf := it hf c18
          refine lv_aload_n hx hb dX3_readAll_68 rfl (lv_at hl 1 rfl) ?_
          obtain ⟨g19, hf⟩ := gd hf
          obtain ⟨z20, h20, hf⟩ := ob hf
          refine r_callVv (rest := []) C0 hH (c_X7_beginAtSpring Γ l Λ z17.2 p1 z20 h20) cv_X3_43 g19 (by decide) rfl hl.1 rfl (Nat.le_of_ble_eq_true rfl) dX3_readAll_69 (by decide) (fun H locs hH => ?_)
          refine lv_iload_n hx hb dX3_readAll_72 rfl (lv_at hl 2 rfl) ?_
          obtain rfl := Option.some.inj hf
          exact r_iret (d' := d) C0 hr hlocks hH rfl dX3_readAll_73
        · replace hf := ie hf c18
          refine lv_iinc (v := (v2 + (1 : Int32))) (lv' := [(2, .int (v2 + (1 : Int32))), (0, .ref (ad Γ.2.2.1 p0)), (1, .ref (ad Γ.2.2.1 p1))]) hx hb dX3_readAll_55 hl (k := 2) rfl (congrArg (fun w => v2 + w) (by decide)) (by decide) rfl (fun ls hl => ?_)
          refine lv_aload_n hx hb dX3_readAll_58 rfl (lv_at hl 1 rfl) ?_
          refine r_getr C0 hH fl_X3_12 g11 dX3_readAll_59 ?_
          obtain ⟨z21, h21, hf⟩ := ob hf
          refine r_callVv (rest := []) C0 hH (c_X6_readToken Γ l Λ z17.2 q11 z21 h21) cv_X3_33 g12 (by decide) rfl hl.1 rfl (Nat.le_of_ble_eq_true rfl) dX3_readAll_62 (by decide) (fun H locs hH => ?_)
          refine lv_goto (tgt := 30) hx hb dX3_readAll_65 (by decide) ?_
          exact ih (v2 + (1 : Int32)) z21 hf _ _ _ hH (lv_sub hl [1, 2, 0] rfl)
set_option maxHeartbeats 4000000 in
set_option maxRecDepth 100000 in
theorem c_X3_readAll (Γ : Cx) (l : Launch) (Λ : List Ly) (d : Dt) (p0 : Nat) (p1 : Nat) (z : Int32 × Dt) (hf : f_X3_readAll Λ d p0 p1 = some z) : Cn Γ l yX3_readAll cX3_readAll 3 (some FieldType.int) 7 150 [.ref (ad Γ.2.2.1 p0), .ref (ad Γ.2.2.1 p1)] Λ d (some (.int z.1)) z.2 := by
  refine Cn.of (own := "SeasonBound$Reader") (by decide +kernel) rfl (Nat.le_of_ble_eq_true rfl) ?_
  intro p e s m below meth c C0 hr hlocks hH ls hl
  have hl : lv_has ls 3 [(0, .ref (ad Γ.2.2.1 p0)), (1, .ref (ad Γ.2.2.1 p1))] := hl
  obtain ⟨hx, hb, hml, hown, hts, hK⟩ := id C0
  unfold f_X3_readAll at hf
  refine lv_aload_n hx hb dX3_readAll_0 rfl (lv_at hl 1 rfl) ?_
  obtain ⟨g1, hf⟩ := gd hf
  obtain ⟨z2, h2, hf⟩ := ob hf
  refine r_callVv (rest := []) C0 hH (c_X7_renew Γ l Λ d p1 z2 h2) cv_X3_18 g1 (by decide) rfl hl.1 rfl (Nat.le_of_ble_eq_true rfl) dX3_readAll_1 (by decide) (fun H locs hH => ?_)
  refine lv_aload_n hx hb dX3_readAll_4 rfl (lv_at hl 0 rfl) ?_
  obtain ⟨q3, g3, hf⟩ := ob hf
  refine r_getr C0 hH fl_X3_12 g3 dX3_readAll_5 ?_
  obtain ⟨g4, hf⟩ := gd hf
  obtain ⟨z5, h5, hf⟩ := ob hf
  refine r_callVv (rest := []) C0 hH (c_X6_rewind Γ l Λ z2 q3 z5 h5) cv_X3_23 g4 (by decide) rfl hl.1 rfl (Nat.le_of_ble_eq_true rfl) dX3_readAll_8 (by decide) (fun H locs hH => ?_)
  refine lv_aload_n hx hb dX3_readAll_11 rfl (lv_at hl 0 rfl) ?_
  refine lv_iconst (v := (0 : Int32)) hx hb dX3_readAll_12 (by decide) ?_
  obtain ⟨g6, hf⟩ := gd hf
  refine r_puti C0 hH fw_X3_26 g6 rfl dX3_readAll_13 (fun H locs hH => ?_)
  refine lv_aload_n hx hb dX3_readAll_16 rfl (lv_at hl 0 rfl) ?_
  refine lv_iconst (v := (0 : Int32)) hx hb dX3_readAll_17 (by decide) ?_
  refine r_puti C0 hH fw_X3_30 g6 rfl dX3_readAll_18 (fun H locs hH => ?_)
  refine lv_iconst (v := (0 : Int32)) hx hb dX3_readAll_21 (by decide) ?_
  refine lv_istore_n (lv' := [(2, .int (0 : Int32)), (0, .ref (ad Γ.2.2.1 p0)), (1, .ref (ad Γ.2.2.1 p1))]) hx hb dX3_readAll_22 rfl hl (by decide) rfl (fun ls hl => ?_)
  refine lv_aload_n hx hb dX3_readAll_23 rfl (lv_at hl 1 rfl) ?_
  refine r_getr C0 hH fl_X3_12 g3 dX3_readAll_24 ?_
  obtain ⟨z7, h7, hf⟩ := ob hf
  refine r_callVv (rest := []) C0 hH (c_X6_readToken Γ l Λ (pI (pI z5 p0 1 (0 : Int32)) p0 2 (0 : Int32)) q3 z7 h7) cv_X3_33 g4 (by decide) rfl hl.1 rfl (Nat.le_of_ble_eq_true rfl) dX3_readAll_27 (by decide) (fun H locs hH => ?_)
  refine w_X3_readAll_L30 C0 hr hlocks p0 p1 FU (0 : Int32) z7 hf _ _ _ hH (lv_sub hl [1, 2, 0] rfl)
theorem dX4_copy_0 : decode cX4_copy 0 = .ok (.aload_n 0, 1) := by decide +kernel
theorem dX4_copy_1 : decode cX4_copy 1 = .ok (.aload_n 1, 1) := by decide +kernel
theorem dX4_copy_2 : decode cX4_copy 2 = .ok (.getfield 9, 3) := by decide +kernel
theorem dX4_copy_5 : decode cX4_copy 5 = .ok (.putfield 9, 3) := by decide +kernel
theorem dX4_copy_8 : decode cX4_copy 8 = .ok (.aload_n 0, 1) := by decide +kernel
theorem dX4_copy_9 : decode cX4_copy 9 = .ok (.aload_n 1, 1) := by decide +kernel
theorem dX4_copy_10 : decode cX4_copy 10 = .ok (.getfield 15, 3) := by decide +kernel
theorem dX4_copy_13 : decode cX4_copy 13 = .ok (.putfield 15, 3) := by decide +kernel
theorem dX4_copy_16 : decode cX4_copy 16 = .ok (.aload_n 0, 1) := by decide +kernel
theorem dX4_copy_17 : decode cX4_copy 17 = .ok (.aload_n 1, 1) := by decide +kernel
theorem dX4_copy_18 : decode cX4_copy 18 = .ok (.getfield 18, 3) := by decide +kernel
theorem dX4_copy_21 : decode cX4_copy 21 = .ok (.putfield 18, 3) := by decide +kernel
theorem dX4_copy_24 : decode cX4_copy 24 = .ok (.return_, 1) := by decide +kernel
def f_X4_copy (Λ : List Ly) (d : Dt) (p0 : Nat) (p1 : Nat) : Option Dt := if clsAt Λ p1 = some 4 then (if clsAt Λ p0 = some 4 then (some (pI (pI (pI d p0 0 (d.1 p1 0)) p0 1 ((pI d p0 0 (d.1 p1 0)).1 p1 1)) p0 2 ((pI (pI d p0 0 (d.1 p1 0)) p0 1 ((pI d p0 0 (d.1 p1 0)).1 p1 1)).1 p1 2))) else none) else none
set_option maxHeartbeats 4000000 in
set_option maxRecDepth 100000 in
theorem c_X4_copy (Γ : Cx) (l : Launch) (Λ : List Ly) (d : Dt) (p0 : Nat) (p1 : Nat) (z : Dt) (hf : f_X4_copy Λ d p0 p1 = some z) : Cn Γ l yX4_copy cX4_copy 2 none 0 0 [.ref (ad Γ.2.2.1 p0), .ref (ad Γ.2.2.1 p1)] Λ d none z := by
  refine Cn.of (own := "SeasonBound$Season") (by decide +kernel) rfl (Nat.le_of_ble_eq_true rfl) ?_
  intro p e s m below meth c C0 hr hlocks hH ls hl
  have hl : lv_has ls 2 [(0, .ref (ad Γ.2.2.1 p0)), (1, .ref (ad Γ.2.2.1 p1))] := hl
  obtain ⟨hx, hb, hml, hown, hts, hK⟩ := id C0
  unfold f_X4_copy at hf
  refine lv_aload_n hx hb dX4_copy_0 rfl (lv_at hl 0 rfl) ?_
  refine lv_aload_n hx hb dX4_copy_1 rfl (lv_at hl 1 rfl) ?_
  obtain ⟨g1, hf⟩ := gd hf
  refine r_geti C0 hH fl_X4_9 g1 rfl dX4_copy_2 ?_
  obtain ⟨g2, hf⟩ := gd hf
  refine r_puti C0 hH fw_X4_9 g2 rfl dX4_copy_5 (fun H locs hH => ?_)
  refine lv_aload_n hx hb dX4_copy_8 rfl (lv_at hl 0 rfl) ?_
  refine lv_aload_n hx hb dX4_copy_9 rfl (lv_at hl 1 rfl) ?_
  refine r_geti C0 hH fl_X4_15 g1 rfl dX4_copy_10 ?_
  refine r_puti C0 hH fw_X4_15 g2 rfl dX4_copy_13 (fun H locs hH => ?_)
  refine lv_aload_n hx hb dX4_copy_16 rfl (lv_at hl 0 rfl) ?_
  refine lv_aload_n hx hb dX4_copy_17 rfl (lv_at hl 1 rfl) ?_
  refine r_geti C0 hH fl_X4_18 g1 rfl dX4_copy_18 ?_
  refine r_puti C0 hH fw_X4_18 g2 rfl dX4_copy_21 (fun H locs hH => ?_)
  obtain rfl := Option.some.inj hf
  exact r_vret C0 hr hlocks hH dX4_copy_24
theorem dJ7_fill_53178_0 : decode cJ7_fill_53178 0 = .ok (.iconst 0, 1) := by decide +kernel
theorem dJ7_fill_53178_1 : decode cJ7_fill_53178 1 = .ok (.istore_n 2, 1) := by decide +kernel
theorem dJ7_fill_53178_2 : decode cJ7_fill_53178 2 = .ok (.aload_n 0, 1) := by decide +kernel
theorem dJ7_fill_53178_3 : decode cJ7_fill_53178 3 = .ok (.arraylength, 1) := by decide +kernel
theorem dJ7_fill_53178_4 : decode cJ7_fill_53178 4 = .ok (.istore_n 3, 1) := by decide +kernel
theorem dJ7_fill_53178_5 : decode cJ7_fill_53178 5 = .ok (.iload_n 2, 1) := by decide +kernel
theorem dJ7_fill_53178_6 : decode cJ7_fill_53178 6 = .ok (.iload_n 3, 1) := by decide +kernel
theorem dJ7_fill_53178_7 : decode cJ7_fill_53178 7 = .ok (.if_icmp .ge 13, 3) := by decide +kernel
theorem dJ7_fill_53178_10 : decode cJ7_fill_53178 10 = .ok (.aload_n 0, 1) := by decide +kernel
theorem dJ7_fill_53178_11 : decode cJ7_fill_53178 11 = .ok (.iload_n 2, 1) := by decide +kernel
theorem dJ7_fill_53178_12 : decode cJ7_fill_53178 12 = .ok (.iload_n 1, 1) := by decide +kernel
theorem dJ7_fill_53178_13 : decode cJ7_fill_53178 13 = .ok (.iastore, 1) := by decide +kernel
theorem dJ7_fill_53178_14 : decode cJ7_fill_53178 14 = .ok (.iinc 2 1, 3) := by decide +kernel
theorem dJ7_fill_53178_17 : decode cJ7_fill_53178 17 = .ok (.goto (-12), 3) := by decide +kernel
theorem dJ7_fill_53178_20 : decode cJ7_fill_53178 20 = .ok (.return_, 1) := by decide +kernel
def f_J7_fill_53178_L5 (Λ : List Ly) (p0 : Nat) (v1 : Int32) (v3 : Int32) : Nat → Int32 → Dt → Option Dt
  | 0, _, _ => none
  | n + 1, v2, d => if v3 ≤ v2 then (some d) else (if okA Λ p0 1 v2 = true then (f_J7_fill_53178_L5 Λ p0 v1 v3 n (v2 + (1 : Int32)) (pI d p0 (v2).toNatClampNeg v1)) else none)
def f_J7_fill_53178 (Λ : List Ly) (d : Dt) (p0 : Nat) (v1 : Int32) : Option Dt := Option.bind (aLn Λ p0 1) fun q1 => f_J7_fill_53178_L5 Λ p0 v1 (Int32.ofNat q1) FU (0 : Int32) d
set_option maxHeartbeats 4000000 in
set_option maxRecDepth 100000 in
theorem w_J7_fill_53178_L5 {p : Program} {l : Launch} {e : Env} {s : State} {m : MethodId} {args : Array Value} {below : List Frame} {meth : Method} {c : Code} {Γ : Cx} {Λ : List Ly} {z : Dt} (C0 : Ct Γ p s m args c cJ7_fill_53178 4 "java/util/Arrays") (hr : meth.sig.returnType = none) (hlocks : meth.locks = false) (p0 : Nat) (v1 : Int32) (v3 : Int32) :
    ∀ (n : Nat) (v2 : Int32) (d : Dt), f_J7_fill_53178_L5 Λ p0 v1 v3 n v2 d = some z → ∀ (H : Heap) (locs : List Loc) (ls : Array Slot), Hs Γ Λ d s H locs → lv_has ls 4 [(0, .ref (ad Γ.2.2.1 p0)), (1, .int v1), (2, .int v2), (3, .int v3)] → W p l e { frames := 0, cells := 0, slots := 0, locals := 0 } s m args below meth c H locs 0 0 (MQ below (QN Γ Λ z none) args s 0 0 (AP Γ)) (F0 m 5 ls []) := by
  obtain ⟨hx, hb, hml, hown, hts, hK⟩ := id C0
  intro n
  induction n with
  | zero =>
    intro v2 d hf
    cases hf
  | succ n ih =>
    intro v2 d hf H locs ls hH hl
    unfold f_J7_fill_53178_L5 at hf
    refine lv_iload_n hx hb dJ7_fill_53178_5 rfl (lv_at hl 2 rfl) ?_
    refine lv_iload_n hx hb dJ7_fill_53178_6 rfl (lv_at hl 3 rfl) ?_
    refine lv_icmp_ge (tgt := 20) hx hb dJ7_fill_53178_7 (by decide) (fun c2 => ?_) (fun c2 => ?_)
    · replace hf := it hf c2
      obtain rfl := Option.some.inj hf
      exact r_vret C0 hr hlocks hH dJ7_fill_53178_20
    · replace hf := ie hf c2
      refine lv_aload_n hx hb dJ7_fill_53178_10 rfl (lv_at hl 0 rfl) ?_
      refine lv_iload_n hx hb dJ7_fill_53178_11 rfl (lv_at hl 2 rfl) ?_
      refine lv_iload_n hx hb dJ7_fill_53178_12 rfl (lv_at hl 1 rfl) ?_
      obtain ⟨g3, hf⟩ := gd hf
      refine r_iast C0 hH g3 dJ7_fill_53178_13 (fun H locs hH => ?_)
      refine lv_iinc (v := (v2 + (1 : Int32))) (lv' := [(2, .int (v2 + (1 : Int32))), (0, .ref (ad Γ.2.2.1 p0)), (1, .int v1), (3, .int v3)]) hx hb dJ7_fill_53178_14 hl (k := 2) rfl (congrArg (fun w => v2 + w) (by decide)) (by decide) rfl (fun ls hl => ?_)
      refine lv_goto (tgt := 5) hx hb dJ7_fill_53178_17 (by decide) ?_
      exact ih (v2 + (1 : Int32)) (pI d p0 (v2).toNatClampNeg v1) hf _ _ _ hH (lv_sub hl [1, 2, 0, 3] rfl)
set_option maxHeartbeats 4000000 in
set_option maxRecDepth 100000 in
theorem c_J7_fill_53178 (Γ : Cx) (l : Launch) (Λ : List Ly) (d : Dt) (p0 : Nat) (v1 : Int32) (z : Dt) (hf : f_J7_fill_53178 Λ d p0 v1 = some z) : Cn Γ l yJ7_fill_53178 cJ7_fill_53178 4 none 0 0 [.ref (ad Γ.2.2.1 p0), .int v1] Λ d none z := by
  refine Cn.of (own := "java/util/Arrays") (by decide +kernel) rfl (Nat.le_of_ble_eq_true rfl) ?_
  intro p e s m below meth c C0 hr hlocks hH ls hl
  have hl : lv_has ls 4 [(0, .ref (ad Γ.2.2.1 p0)), (1, .int v1)] := hl
  obtain ⟨hx, hb, hml, hown, hts, hK⟩ := id C0
  unfold f_J7_fill_53178 at hf
  refine lv_iconst (v := (0 : Int32)) hx hb dJ7_fill_53178_0 (by decide) ?_
  refine lv_istore_n (lv' := [(2, .int (0 : Int32)), (0, .ref (ad Γ.2.2.1 p0)), (1, .int v1)]) hx hb dJ7_fill_53178_1 rfl hl (by decide) rfl (fun ls hl => ?_)
  refine lv_aload_n hx hb dJ7_fill_53178_2 rfl (lv_at hl 1 rfl) ?_
  obtain ⟨q1, g1, hf⟩ := ob hf
  refine r_alen C0 hH g1 (by decide) dJ7_fill_53178_3 ?_
  refine lv_istore_n (lv' := [(3, .int (Int32.ofNat q1)), (2, .int (0 : Int32)), (0, .ref (ad Γ.2.2.1 p0)), (1, .int v1)]) hx hb dJ7_fill_53178_4 rfl hl (by decide) rfl (fun ls hl => ?_)
  refine w_J7_fill_53178_L5 C0 hr hlocks p0 v1 (Int32.ofNat q1) FU (0 : Int32) d hf _ _ _ hH (lv_sub hl [2, 3, 1, 0] rfl)
theorem dX5_renew_0 : decode cX5_renew 0 = .ok (.aload_n 0, 1) := by decide +kernel
theorem dX5_renew_1 : decode cX5_renew 1 = .ok (.getfield 9, 3) := by decide +kernel
theorem dX5_renew_4 : decode cX5_renew 4 = .ok (.iconst 0, 1) := by decide +kernel
theorem dX5_renew_5 : decode cX5_renew 5 = .ok (.invokestatic 19, 3) := by decide +kernel
theorem dX5_renew_8 : decode cX5_renew 8 = .ok (.aload_n 0, 1) := by decide +kernel
theorem dX5_renew_9 : decode cX5_renew 9 = .ok (.iload_n 1, 1) := by decide +kernel
theorem dX5_renew_10 : decode cX5_renew 10 = .ok (.putfield 25, 3) := by decide +kernel
theorem dX5_renew_13 : decode cX5_renew 13 = .ok (.aload_n 0, 1) := by decide +kernel
theorem dX5_renew_14 : decode cX5_renew 14 = .ok (.iload_n 2, 1) := by decide +kernel
theorem dX5_renew_15 : decode cX5_renew 15 = .ok (.putfield 15, 3) := by decide +kernel
theorem dX5_renew_18 : decode cX5_renew 18 = .ok (.return_, 1) := by decide +kernel
def f_X5_renew (Λ : List Ly) (d : Dt) (p0 : Nat) (v1 : Int32) (v2 : Int32) : Option Dt := Option.bind (rf Λ p0 5 0) fun q1 => Option.bind (f_J7_fill_53178 Λ d q1 (0 : Int32)) fun z2 => if clsAt Λ p0 = some 5 then (some (pI (pI z2 p0 1 v1) p0 2 v2)) else none
set_option maxHeartbeats 4000000 in
set_option maxRecDepth 100000 in
theorem c_X5_renew (Γ : Cx) (l : Launch) (Λ : List Ly) (d : Dt) (p0 : Nat) (v1 : Int32) (v2 : Int32) (z : Dt) (hf : f_X5_renew Λ d p0 v1 v2 = some z) : Cn Γ l yX5_renew cX5_renew 3 none 1 23 [.ref (ad Γ.2.2.1 p0), .int v1, .int v2] Λ d none z := by
  refine Cn.of (own := "SeasonBound$Sheet") (by decide +kernel) rfl (Nat.le_of_ble_eq_true rfl) ?_
  intro p e s m below meth c C0 hr hlocks hH ls hl
  have hl : lv_has ls 3 [(0, .ref (ad Γ.2.2.1 p0)), (1, .int v1), (2, .int v2)] := hl
  obtain ⟨hx, hb, hml, hown, hts, hK⟩ := id C0
  unfold f_X5_renew at hf
  refine lv_aload_n hx hb dX5_renew_0 rfl (lv_at hl 0 rfl) ?_
  obtain ⟨q1, g1, hf⟩ := ob hf
  refine r_getr C0 hH fl_X5_9 g1 dX5_renew_1 ?_
  refine lv_iconst (v := (0 : Int32)) hx hb dX5_renew_4 (by decide) ?_
  obtain ⟨z2, h2, hf⟩ := ob hf
  refine r_callSv (rest := []) C0 hH (c_J7_fill_53178 Γ l Λ d q1 (0 : Int32) z2 h2) cs_X5_19 (by decide) rfl hl.1 rfl (Nat.le_of_ble_eq_true rfl) dX5_renew_5 (by decide) (fun H locs hH => ?_)
  refine lv_aload_n hx hb dX5_renew_8 rfl (lv_at hl 0 rfl) ?_
  refine lv_iload_n hx hb dX5_renew_9 rfl (lv_at hl 1 rfl) ?_
  obtain ⟨g3, hf⟩ := gd hf
  refine r_puti C0 hH fw_X5_25 g3 rfl dX5_renew_10 (fun H locs hH => ?_)
  refine lv_aload_n hx hb dX5_renew_13 rfl (lv_at hl 0 rfl) ?_
  refine lv_iload_n hx hb dX5_renew_14 rfl (lv_at hl 2 rfl) ?_
  refine r_puti C0 hH fw_X5_15 g3 rfl dX5_renew_15 (fun H locs hH => ?_)
  obtain rfl := Option.some.inj hf
  exact r_vret C0 hr hlocks hH dX5_renew_18
theorem dX5_isNothing_0 : decode cX5_isNothing 0 = .ok (.aload_n 0, 1) := by decide +kernel
theorem dX5_isNothing_1 : decode cX5_isNothing 1 = .ok (.getfield 15, 3) := by decide +kernel
theorem dX5_isNothing_4 : decode cX5_isNothing 4 = .ok (.bipush (-4), 2) := by decide +kernel
theorem dX5_isNothing_6 : decode cX5_isNothing 6 = .ok (.if_icmp .ne 7, 3) := by decide +kernel
theorem dX5_isNothing_9 : decode cX5_isNothing 9 = .ok (.iconst 1, 1) := by decide +kernel
theorem dX5_isNothing_10 : decode cX5_isNothing 10 = .ok (.goto 4, 3) := by decide +kernel
theorem dX5_isNothing_13 : decode cX5_isNothing 13 = .ok (.iconst 0, 1) := by decide +kernel
theorem dX5_isNothing_14 : decode cX5_isNothing 14 = .ok (.ireturn, 1) := by decide +kernel
def f_X5_isNothing (Λ : List Ly) (d : Dt) (p0 : Nat) : Option Int32 := if clsAt Λ p0 = some 5 then (if (d.1 p0 2) = (-4 : Int32) then (some (1 : Int32)) else (some (0 : Int32))) else none
set_option maxHeartbeats 4000000 in
set_option maxRecDepth 100000 in
theorem c_X5_isNothing (Γ : Cx) (l : Launch) (Λ : List Ly) (d : Dt) (p0 : Nat) (z : Int32) (hf : f_X5_isNothing Λ d p0 = some z) : Cn Γ l yX5_isNothing cX5_isNothing 1 (some FieldType.boolean) 0 0 [.ref (ad Γ.2.2.1 p0)] Λ d (some (.int z)) d := by
  refine Cn.of (own := "SeasonBound$Sheet") (by decide +kernel) rfl (Nat.le_of_ble_eq_true rfl) ?_
  intro p e s m below meth c C0 hr hlocks hH ls hl
  have hl : lv_has ls 1 [(0, .ref (ad Γ.2.2.1 p0))] := hl
  obtain ⟨hx, hb, hml, hown, hts, hK⟩ := id C0
  unfold f_X5_isNothing at hf
  refine lv_aload_n hx hb dX5_isNothing_0 rfl (lv_at hl 0 rfl) ?_
  obtain ⟨g1, hf⟩ := gd hf
  refine r_geti C0 hH fl_X5_15 g1 rfl dX5_isNothing_1 ?_
  refine lv_bipush (v := (-4 : Int32)) hx hb dX5_isNothing_4 (by decide) ?_
  refine lv_icmp_ne (tgt := 13) hx hb dX5_isNothing_6 (by decide) (fun c2 => ?_) (fun c2 => ?_)
  · replace hf := ie hf c2
    refine lv_iconst (v := (0 : Int32)) hx hb dX5_isNothing_13 (by decide) ?_
    obtain rfl := Option.some.inj hf
    exact r_iret (d' := d) C0 hr hlocks hH (nz (Or.inl rfl)) dX5_isNothing_14
  · replace hf := it hf c2
    refine lv_iconst (v := (1 : Int32)) hx hb dX5_isNothing_9 (by decide) ?_
    refine lv_goto (tgt := 14) hx hb dX5_isNothing_10 (by decide) ?_
    obtain rfl := Option.some.inj hf
    exact r_iret (d' := d) C0 hr hlocks hH (nz (Or.inr rfl)) dX5_isNothing_14
theorem dX5_faultIn_0 : decode cX5_faultIn 0 = .ok (.aload_n 0, 1) := by decide +kernel
theorem dX5_faultIn_1 : decode cX5_faultIn 1 = .ok (.invokevirtual 28, 3) := by decide +kernel
theorem dX5_faultIn_4 : decode cX5_faultIn 4 = .ok (.ifCond .eq 5, 3) := by decide +kernel
theorem dX5_faultIn_7 : decode cX5_faultIn 7 = .ok (.iconst 1, 1) := by decide +kernel
theorem dX5_faultIn_8 : decode cX5_faultIn 8 = .ok (.ireturn, 1) := by decide +kernel
theorem dX5_faultIn_9 : decode cX5_faultIn 9 = .ok (.iload_n 1, 1) := by decide +kernel
theorem dX5_faultIn_10 : decode cX5_faultIn 10 = .ok (.aload_n 0, 1) := by decide +kernel
theorem dX5_faultIn_11 : decode cX5_faultIn 11 = .ok (.getfield 25, 3) := by decide +kernel
theorem dX5_faultIn_14 : decode cX5_faultIn 14 = .ok (.if_icmp .eq 5, 3) := by decide +kernel
theorem dX5_faultIn_17 : decode cX5_faultIn 17 = .ok (.iconst 3, 1) := by decide +kernel
theorem dX5_faultIn_18 : decode cX5_faultIn 18 = .ok (.ireturn, 1) := by decide +kernel
theorem dX5_faultIn_19 : decode cX5_faultIn 19 = .ok (.iload_n 2, 1) := by decide +kernel
theorem dX5_faultIn_20 : decode cX5_faultIn 20 = .ok (.iconst 0, 1) := by decide +kernel
theorem dX5_faultIn_21 : decode cX5_faultIn 21 = .ok (.aload_n 0, 1) := by decide +kernel
theorem dX5_faultIn_22 : decode cX5_faultIn 22 = .ok (.getfield 15, 3) := by decide +kernel
theorem dX5_faultIn_25 : decode cX5_faultIn 25 = .ok (.iload_n 3, 1) := by decide +kernel
theorem dX5_faultIn_26 : decode cX5_faultIn 26 = .ok (.isub, 1) := by decide +kernel
theorem dX5_faultIn_27 : decode cX5_faultIn 27 = .ok (.invokestatic 32, 3) := by decide +kernel
theorem dX5_faultIn_30 : decode cX5_faultIn 30 = .ok (.ifCond .eq 7, 3) := by decide +kernel
theorem dX5_faultIn_33 : decode cX5_faultIn 33 = .ok (.iconst 0, 1) := by decide +kernel
theorem dX5_faultIn_34 : decode cX5_faultIn 34 = .ok (.goto 4, 3) := by decide +kernel
theorem dX5_faultIn_37 : decode cX5_faultIn 37 = .ok (.iconst 2, 1) := by decide +kernel
theorem dX5_faultIn_38 : decode cX5_faultIn 38 = .ok (.ireturn, 1) := by decide +kernel
def f_X5_faultIn (Λ : List Ly) (d : Dt) (p0 : Nat) (v1 : Int32) (v2 : Int32) (v3 : Int32) : Option Int32 := if clsAt Λ p0 = some 5 then (Option.bind (f_X5_isNothing Λ d p0) fun z2 => if z2 = 0 then (if v1 = (d.1 p0 1) then (if (f_X8_within v2 (0 : Int32) ((d.1 p0 2) - v3)) = 0 then (some (2 : Int32)) else (some (0 : Int32))) else (some (3 : Int32))) else (some (1 : Int32))) else none
set_option maxHeartbeats 4000000 in
set_option maxRecDepth 100000 in
theorem c_X5_faultIn (Γ : Cx) (l : Launch) (Λ : List Ly) (d : Dt) (p0 : Nat) (v1 : Int32) (v2 : Int32) (v3 : Int32) (z : Int32) (hf : f_X5_faultIn Λ d p0 v1 v2 v3 = some z) : Cn Γ l yX5_faultIn cX5_faultIn 4 (some FieldType.int) 1 22 [.ref (ad Γ.2.2.1 p0), .int v1, .int v2, .int v3] Λ d (some (.int z)) d := by
  refine Cn.of (own := "SeasonBound$Sheet") (by decide +kernel) rfl (Nat.le_of_ble_eq_true rfl) ?_
  intro p e s m below meth c C0 hr hlocks hH ls hl
  have hl : lv_has ls 4 [(0, .ref (ad Γ.2.2.1 p0)), (1, .int v1), (2, .int v2), (3, .int v3)] := hl
  obtain ⟨hx, hb, hml, hown, hts, hK⟩ := id C0
  unfold f_X5_faultIn at hf
  refine lv_aload_n hx hb dX5_faultIn_0 rfl (lv_at hl 0 rfl) ?_
  obtain ⟨g1, hf⟩ := gd hf
  obtain ⟨z2, h2, hf⟩ := ob hf
  refine r_callVi (rest := []) C0 hH (c_X5_isNothing Γ l Λ d p0 z2 h2) cv_X5_28 g1 (by decide) rfl hl.1 rfl (Nat.le_of_ble_eq_true rfl) dX5_faultIn_1 (by decide) (fun H locs hH => ?_)
  refine lv_if_eq (tgt := 9) hx hb dX5_faultIn_4 (by decide) (fun c3 => ?_) (fun c3 => ?_)
  · replace hf := it hf c3
    refine lv_iload_n hx hb dX5_faultIn_9 rfl (lv_at hl 1 rfl) ?_
    refine lv_aload_n hx hb dX5_faultIn_10 rfl (lv_at hl 0 rfl) ?_
    refine r_geti C0 hH fl_X5_25 g1 rfl dX5_faultIn_11 ?_
    refine lv_icmp_eq (tgt := 19) hx hb dX5_faultIn_14 (by decide) (fun c4 => ?_) (fun c4 => ?_)
    · replace hf := it hf c4
      refine lv_iload_n hx hb dX5_faultIn_19 rfl (lv_at hl 2 rfl) ?_
      refine lv_iconst (v := (0 : Int32)) hx hb dX5_faultIn_20 (by decide) ?_
      refine lv_aload_n hx hb dX5_faultIn_21 rfl (lv_at hl 0 rfl) ?_
      refine r_geti C0 hH fl_X5_15 g1 rfl dX5_faultIn_22 ?_
      refine lv_iload_n hx hb dX5_faultIn_25 rfl (lv_at hl 3 rfl) ?_
      refine lv_isub hx hb dX5_faultIn_26 ?_
      refine r_callNi (rest := []) C0 hH (c_X8_within Γ l Λ d v2 (0 : Int32) ((d.1 p0 2) - v3)) cn_X5_32 (by decide) rfl hl.1 rfl (Nat.le_of_ble_eq_true rfl) dX5_faultIn_27 (by decide) (fun H locs hH => ?_)
      refine lv_if_eq (tgt := 37) hx hb dX5_faultIn_30 (by decide) (fun c5 => ?_) (fun c5 => ?_)
      · replace hf := it hf c5
        refine lv_iconst (v := (2 : Int32)) hx hb dX5_faultIn_37 (by decide) ?_
        obtain rfl := Option.some.inj hf
        exact r_iret (d' := d) C0 hr hlocks hH rfl dX5_faultIn_38
      · replace hf := ie hf c5
        refine lv_iconst (v := (0 : Int32)) hx hb dX5_faultIn_33 (by decide) ?_
        refine lv_goto (tgt := 38) hx hb dX5_faultIn_34 (by decide) ?_
        obtain rfl := Option.some.inj hf
        exact r_iret (d' := d) C0 hr hlocks hH rfl dX5_faultIn_38
    · replace hf := ie hf c4
      refine lv_iconst (v := (3 : Int32)) hx hb dX5_faultIn_17 (by decide) ?_
      obtain rfl := Option.some.inj hf
      exact r_iret (d' := d) C0 hr hlocks hH rfl dX5_faultIn_18
  · replace hf := ie hf c3
    refine lv_iconst (v := (1 : Int32)) hx hb dX5_faultIn_7 (by decide) ?_
    obtain rfl := Option.some.inj hf
    exact r_iret (d' := d) C0 hr hlocks hH rfl dX5_faultIn_8
theorem dX5_put_0 : decode cX5_put 0 = .ok (.aload_n 0, 1) := by decide +kernel
theorem dX5_put_1 : decode cX5_put 1 = .ok (.getfield 25, 3) := by decide +kernel
theorem dX5_put_4 : decode cX5_put 4 = .ok (.lookupswitch 50 #[(0, 28), (1, 39)], 28) := by decide +kernel
theorem dX5_put_32 : decode cX5_put 32 = .ok (.aload_n 0, 1) := by decide +kernel
theorem dX5_put_33 : decode cX5_put 33 = .ok (.getfield 9, 3) := by decide +kernel
theorem dX5_put_36 : decode cX5_put 36 = .ok (.iload_n 1, 1) := by decide +kernel
theorem dX5_put_37 : decode cX5_put 37 = .ok (.iload_n 2, 1) := by decide +kernel
theorem dX5_put_38 : decode cX5_put 38 = .ok (.i2b, 1) := by decide +kernel
theorem dX5_put_39 : decode cX5_put 39 = .ok (.iastore, 1) := by decide +kernel
theorem dX5_put_40 : decode cX5_put 40 = .ok (.goto 21, 3) := by decide +kernel
theorem dX5_put_43 : decode cX5_put 43 = .ok (.aload_n 0, 1) := by decide +kernel
theorem dX5_put_44 : decode cX5_put 44 = .ok (.getfield 9, 3) := by decide +kernel
theorem dX5_put_47 : decode cX5_put 47 = .ok (.iload_n 1, 1) := by decide +kernel
theorem dX5_put_48 : decode cX5_put 48 = .ok (.iload_n 2, 1) := by decide +kernel
theorem dX5_put_49 : decode cX5_put 49 = .ok (.i2s, 1) := by decide +kernel
theorem dX5_put_50 : decode cX5_put 50 = .ok (.iastore, 1) := by decide +kernel
theorem dX5_put_51 : decode cX5_put 51 = .ok (.goto 10, 3) := by decide +kernel
theorem dX5_put_54 : decode cX5_put 54 = .ok (.aload_n 0, 1) := by decide +kernel
theorem dX5_put_55 : decode cX5_put 55 = .ok (.getfield 9, 3) := by decide +kernel
theorem dX5_put_58 : decode cX5_put 58 = .ok (.iload_n 1, 1) := by decide +kernel
theorem dX5_put_59 : decode cX5_put 59 = .ok (.iload_n 2, 1) := by decide +kernel
theorem dX5_put_60 : decode cX5_put 60 = .ok (.iastore, 1) := by decide +kernel
theorem dX5_put_61 : decode cX5_put 61 = .ok (.return_, 1) := by decide +kernel
def f_X5_put (Λ : List Ly) (d : Dt) (p0 : Nat) (v1 : Int32) (v2 : Int32) : Option Dt := if clsAt Λ p0 = some 5 then (if (d.1 p0 1) = (0 : Int32) then (Option.bind (rf Λ p0 5 0) fun q3 => if okA Λ q3 1 v1 = true then (some (pI d q3 (v1).toNatClampNeg (v2).toInt8.toInt32)) else none) else (if (d.1 p0 1) = (1 : Int32) then (Option.bind (rf Λ p0 5 0) fun q6 => if okA Λ q6 1 v1 = true then (some (pI d q6 (v1).toNatClampNeg (v2).toInt16.toInt32)) else none) else (Option.bind (rf Λ p0 5 0) fun q8 => if okA Λ q8 1 v1 = true then (some (pI d q8 (v1).toNatClampNeg v2)) else none))) else none
set_option maxHeartbeats 4000000 in
set_option maxRecDepth 100000 in
theorem c_X5_put (Γ : Cx) (l : Launch) (Λ : List Ly) (d : Dt) (p0 : Nat) (v1 : Int32) (v2 : Int32) (z : Dt) (hf : f_X5_put Λ d p0 v1 v2 = some z) : Cn Γ l yX5_put cX5_put 3 none 0 0 [.ref (ad Γ.2.2.1 p0), .int v1, .int v2] Λ d none z := by
  refine Cn.of (own := "SeasonBound$Sheet") (by decide +kernel) rfl (Nat.le_of_ble_eq_true rfl) ?_
  intro p e s m below meth c C0 hr hlocks hH ls hl
  have hl : lv_has ls 3 [(0, .ref (ad Γ.2.2.1 p0)), (1, .int v1), (2, .int v2)] := hl
  obtain ⟨hx, hb, hml, hown, hts, hK⟩ := id C0
  unfold f_X5_put at hf
  refine lv_aload_n hx hb dX5_put_0 rfl (lv_at hl 0 rfl) ?_
  obtain ⟨g1, hf⟩ := gd hf
  refine r_geti C0 hH fl_X5_25 g1 rfl dX5_put_1 ?_
  by_cases c2 : (d.1 p0 1) = (0 : Int32)
  · replace hf := it hf c2
    refine lv_lookup (off := 28) (tgt := 32) hx hb dX5_put_4 (by decide) (by rw [c2]; rfl) (by decide) ?_
    refine lv_aload_n hx hb dX5_put_32 rfl (lv_at hl 0 rfl) ?_
    obtain ⟨q3, g3, hf⟩ := ob hf
    refine r_getr C0 hH fl_X5_9 g3 dX5_put_33 ?_
    refine lv_iload_n hx hb dX5_put_36 rfl (lv_at hl 1 rfl) ?_
    refine lv_iload_n hx hb dX5_put_37 rfl (lv_at hl 2 rfl) ?_
    refine lv_i2b (v := (v2).toInt8.toInt32) hx hb dX5_put_38 rfl ?_
    obtain ⟨g4, hf⟩ := gd hf
    refine r_iast C0 hH g4 dX5_put_39 (fun H locs hH => ?_)
    refine lv_goto (tgt := 61) hx hb dX5_put_40 (by decide) ?_
    obtain rfl := Option.some.inj hf
    exact r_vret C0 hr hlocks hH dX5_put_61
  · replace hf := ie hf c2
    by_cases c5 : (d.1 p0 1) = (1 : Int32)
    · replace hf := it hf c5
      refine lv_lookup (off := 39) (tgt := 43) hx hb dX5_put_4 (by decide) (by rw [c5]; rfl) (by decide) ?_
      refine lv_aload_n hx hb dX5_put_43 rfl (lv_at hl 0 rfl) ?_
      obtain ⟨q6, g6, hf⟩ := ob hf
      refine r_getr C0 hH fl_X5_9 g6 dX5_put_44 ?_
      refine lv_iload_n hx hb dX5_put_47 rfl (lv_at hl 1 rfl) ?_
      refine lv_iload_n hx hb dX5_put_48 rfl (lv_at hl 2 rfl) ?_
      refine lv_i2s (v := (v2).toInt16.toInt32) hx hb dX5_put_49 rfl ?_
      obtain ⟨g7, hf⟩ := gd hf
      refine r_iast C0 hH g7 dX5_put_50 (fun H locs hH => ?_)
      refine lv_goto (tgt := 61) hx hb dX5_put_51 (by decide) ?_
      obtain rfl := Option.some.inj hf
      exact r_vret C0 hr hlocks hH dX5_put_61
    · replace hf := ie hf c5
      refine lv_lookup (off := 50) (tgt := 54) hx hb dX5_put_4 (by decide) (by show Op.lookupswitch.offset [(0, 28), (1, 39)] _ _ = _; rw [lv_osw c2 (by decide), lv_osw c5 (by decide)]; rfl) (by decide) ?_
      refine lv_aload_n hx hb dX5_put_54 rfl (lv_at hl 0 rfl) ?_
      obtain ⟨q8, g8, hf⟩ := ob hf
      refine r_getr C0 hH fl_X5_9 g8 dX5_put_55 ?_
      refine lv_iload_n hx hb dX5_put_58 rfl (lv_at hl 1 rfl) ?_
      refine lv_iload_n hx hb dX5_put_59 rfl (lv_at hl 2 rfl) ?_
      obtain ⟨g9, hf⟩ := gd hf
      refine r_iast C0 hH g9 dX5_put_60 (fun H locs hH => ?_)
      obtain rfl := Option.some.inj hf
      exact r_vret C0 hr hlocks hH dX5_put_61
theorem dX6_append_0 : decode cX6_append 0 = .ok (.aload_n 0, 1) := by decide +kernel
theorem dX6_append_1 : decode cX6_append 1 = .ok (.getfield 15, 3) := by decide +kernel
theorem dX6_append_4 : decode cX6_append 4 = .ok (.sipush 160, 3) := by decide +kernel
theorem dX6_append_7 : decode cX6_append 7 = .ok (.if_icmp .ge 24, 3) := by decide +kernel
theorem dX6_append_10 : decode cX6_append 10 = .ok (.aload_n 0, 1) := by decide +kernel
theorem dX6_append_11 : decode cX6_append 11 = .ok (.getfield 9, 3) := by decide +kernel
theorem dX6_append_14 : decode cX6_append 14 = .ok (.aload_n 0, 1) := by decide +kernel
theorem dX6_append_15 : decode cX6_append 15 = .ok (.getfield 15, 3) := by decide +kernel
theorem dX6_append_18 : decode cX6_append 18 = .ok (.iload_n 1, 1) := by decide +kernel
theorem dX6_append_19 : decode cX6_append 19 = .ok (.i2b, 1) := by decide +kernel
theorem dX6_append_20 : decode cX6_append 20 = .ok (.bastore, 1) := by decide +kernel
theorem dX6_append_21 : decode cX6_append 21 = .ok (.aload_n 0, 1) := by decide +kernel
theorem dX6_append_22 : decode cX6_append 22 = .ok (.dup, 1) := by decide +kernel
theorem dX6_append_23 : decode cX6_append 23 = .ok (.getfield 15, 3) := by decide +kernel
theorem dX6_append_26 : decode cX6_append 26 = .ok (.iconst 1, 1) := by decide +kernel
theorem dX6_append_27 : decode cX6_append 27 = .ok (.iadd, 1) := by decide +kernel
theorem dX6_append_28 : decode cX6_append 28 = .ok (.putfield 15, 3) := by decide +kernel
theorem dX6_append_31 : decode cX6_append 31 = .ok (.return_, 1) := by decide +kernel
def f_X6_append (Λ : List Ly) (d : Dt) (p0 : Nat) (v1 : Int32) : Option Dt := if clsAt Λ p0 = some 6 then (if (160 : Int32) ≤ (d.1 p0 1) then (some d) else (Option.bind (rf Λ p0 6 0) fun q3 => if okA Λ q3 0 (d.1 p0 1) = true then (some (pI (pI d q3 ((d.1 p0 1)).toNatClampNeg (vp_nar .byte (v1).toInt8.toInt32)) p0 1 (((pI d q3 ((d.1 p0 1)).toNatClampNeg (vp_nar .byte (v1).toInt8.toInt32)).1 p0 1) + (1 : Int32)))) else none)) else none
set_option maxHeartbeats 4000000 in
set_option maxRecDepth 100000 in
theorem c_X6_append (Γ : Cx) (l : Launch) (Λ : List Ly) (d : Dt) (p0 : Nat) (v1 : Int32) (z : Dt) (hf : f_X6_append Λ d p0 v1 = some z) : Cn Γ l yX6_append cX6_append 2 none 0 0 [.ref (ad Γ.2.2.1 p0), .int v1] Λ d none z := by
  refine Cn.of (own := "SeasonBound$Tape") (by decide +kernel) rfl (Nat.le_of_ble_eq_true rfl) ?_
  intro p e s m below meth c C0 hr hlocks hH ls hl
  have hl : lv_has ls 2 [(0, .ref (ad Γ.2.2.1 p0)), (1, .int v1)] := hl
  obtain ⟨hx, hb, hml, hown, hts, hK⟩ := id C0
  unfold f_X6_append at hf
  refine lv_aload_n hx hb dX6_append_0 rfl (lv_at hl 0 rfl) ?_
  obtain ⟨g1, hf⟩ := gd hf
  refine r_geti C0 hH fl_X6_15 g1 rfl dX6_append_1 ?_
  refine lv_sipush (v := (160 : Int32)) hx hb dX6_append_4 (by decide) ?_
  refine lv_icmp_ge (tgt := 31) hx hb dX6_append_7 (by decide) (fun c2 => ?_) (fun c2 => ?_)
  · replace hf := it hf c2
    obtain rfl := Option.some.inj hf
    exact r_vret C0 hr hlocks hH dX6_append_31
  · replace hf := ie hf c2
    refine lv_aload_n hx hb dX6_append_10 rfl (lv_at hl 0 rfl) ?_
    obtain ⟨q3, g3, hf⟩ := ob hf
    refine r_getr C0 hH fl_X6_9 g3 dX6_append_11 ?_
    refine lv_aload_n hx hb dX6_append_14 rfl (lv_at hl 0 rfl) ?_
    refine r_geti C0 hH fl_X6_15 g1 rfl dX6_append_15 ?_
    refine lv_iload_n hx hb dX6_append_18 rfl (lv_at hl 1 rfl) ?_
    refine lv_i2b (v := (v1).toInt8.toInt32) hx hb dX6_append_19 rfl ?_
    obtain ⟨g4, hf⟩ := gd hf
    refine r_bast C0 hH g4 dX6_append_20 (fun H locs hH => ?_)
    refine lv_aload_n hx hb dX6_append_21 rfl (lv_at hl 0 rfl) ?_
    refine lv_dup hx hb dX6_append_22 rfl ?_
    refine r_geti C0 hH fl_X6_15 g1 rfl dX6_append_23 ?_
    refine lv_iconst (v := (1 : Int32)) hx hb dX6_append_26 (by decide) ?_
    refine lv_iadd hx hb dX6_append_27 ?_
    refine r_puti C0 hH fw_X6_15 g1 rfl dX6_append_28 (fun H locs hH => ?_)
    obtain rfl := Option.some.inj hf
    exact r_vret C0 hr hlocks hH dX6_append_31
theorem dX7_copy_0 : decode cX7_copy 0 = .ok (.iconst 0, 1) := by decide +kernel
theorem dX7_copy_1 : decode cX7_copy 1 = .ok (.istore_n 2, 1) := by decide +kernel
theorem dX7_copy_2 : decode cX7_copy 2 = .ok (.iload_n 2, 1) := by decide +kernel
theorem dX7_copy_3 : decode cX7_copy 3 = .ok (.iconst 4, 1) := by decide +kernel
theorem dX7_copy_4 : decode cX7_copy 4 = .ok (.if_icmp .ge 24, 3) := by decide +kernel
theorem dX7_copy_7 : decode cX7_copy 7 = .ok (.aload_n 0, 1) := by decide +kernel
theorem dX7_copy_8 : decode cX7_copy 8 = .ok (.getfield 11, 3) := by decide +kernel
theorem dX7_copy_11 : decode cX7_copy 11 = .ok (.iload_n 2, 1) := by decide +kernel
theorem dX7_copy_12 : decode cX7_copy 12 = .ok (.aaload, 1) := by decide +kernel
theorem dX7_copy_13 : decode cX7_copy 13 = .ok (.aload_n 1, 1) := by decide +kernel
theorem dX7_copy_14 : decode cX7_copy 14 = .ok (.getfield 11, 3) := by decide +kernel
theorem dX7_copy_17 : decode cX7_copy 17 = .ok (.iload_n 2, 1) := by decide +kernel
theorem dX7_copy_18 : decode cX7_copy 18 = .ok (.aaload, 1) := by decide +kernel
theorem dX7_copy_19 : decode cX7_copy 19 = .ok (.invokevirtual 61, 3) := by decide +kernel
theorem dX7_copy_22 : decode cX7_copy 22 = .ok (.iinc 2 1, 3) := by decide +kernel
theorem dX7_copy_25 : decode cX7_copy 25 = .ok (.goto (-23), 3) := by decide +kernel
theorem dX7_copy_28 : decode cX7_copy 28 = .ok (.iconst 0, 1) := by decide +kernel
theorem dX7_copy_29 : decode cX7_copy 29 = .ok (.istore_n 2, 1) := by decide +kernel
theorem dX7_copy_30 : decode cX7_copy 30 = .ok (.iload_n 2, 1) := by decide +kernel
theorem dX7_copy_31 : decode cX7_copy 31 = .ok (.aload_n 1, 1) := by decide +kernel
theorem dX7_copy_32 : decode cX7_copy 32 = .ok (.getfield 39, 3) := by decide +kernel
theorem dX7_copy_35 : decode cX7_copy 35 = .ok (.if_icmp .ge 24, 3) := by decide +kernel
theorem dX7_copy_38 : decode cX7_copy 38 = .ok (.aload_n 0, 1) := by decide +kernel
theorem dX7_copy_39 : decode cX7_copy 39 = .ok (.getfield 19, 3) := by decide +kernel
theorem dX7_copy_42 : decode cX7_copy 42 = .ok (.iload_n 2, 1) := by decide +kernel
theorem dX7_copy_43 : decode cX7_copy 43 = .ok (.aaload, 1) := by decide +kernel
theorem dX7_copy_44 : decode cX7_copy 44 = .ok (.aload_n 1, 1) := by decide +kernel
theorem dX7_copy_45 : decode cX7_copy 45 = .ok (.getfield 19, 3) := by decide +kernel
theorem dX7_copy_48 : decode cX7_copy 48 = .ok (.iload_n 2, 1) := by decide +kernel
theorem dX7_copy_49 : decode cX7_copy 49 = .ok (.aaload, 1) := by decide +kernel
theorem dX7_copy_50 : decode cX7_copy 50 = .ok (.invokevirtual 65, 3) := by decide +kernel
theorem dX7_copy_53 : decode cX7_copy 53 = .ok (.iinc 2 1, 3) := by decide +kernel
theorem dX7_copy_56 : decode cX7_copy 56 = .ok (.goto (-26), 3) := by decide +kernel
theorem dX7_copy_59 : decode cX7_copy 59 = .ok (.aload_n 0, 1) := by decide +kernel
theorem dX7_copy_60 : decode cX7_copy 60 = .ok (.aload_n 1, 1) := by decide +kernel
theorem dX7_copy_61 : decode cX7_copy 61 = .ok (.getfield 39, 3) := by decide +kernel
theorem dX7_copy_64 : decode cX7_copy 64 = .ok (.putfield 39, 3) := by decide +kernel
theorem dX7_copy_67 : decode cX7_copy 67 = .ok (.aload_n 0, 1) := by decide +kernel
theorem dX7_copy_68 : decode cX7_copy 68 = .ok (.aload_n 1, 1) := by decide +kernel
theorem dX7_copy_69 : decode cX7_copy 69 = .ok (.getfield 49, 3) := by decide +kernel
theorem dX7_copy_72 : decode cX7_copy 72 = .ok (.putfield 49, 3) := by decide +kernel
theorem dX7_copy_75 : decode cX7_copy 75 = .ok (.aload_n 0, 1) := by decide +kernel
theorem dX7_copy_76 : decode cX7_copy 76 = .ok (.aload_n 1, 1) := by decide +kernel
theorem dX7_copy_77 : decode cX7_copy 77 = .ok (.getfield 55, 3) := by decide +kernel
theorem dX7_copy_80 : decode cX7_copy 80 = .ok (.putfield 55, 3) := by decide +kernel
theorem dX7_copy_83 : decode cX7_copy 83 = .ok (.aload_n 0, 1) := by decide +kernel
theorem dX7_copy_84 : decode cX7_copy 84 = .ok (.aload_n 1, 1) := by decide +kernel
theorem dX7_copy_85 : decode cX7_copy 85 = .ok (.getfield 58, 3) := by decide +kernel
theorem dX7_copy_88 : decode cX7_copy 88 = .ok (.putfield 58, 3) := by decide +kernel
theorem dX7_copy_91 : decode cX7_copy 91 = .ok (.iconst 0, 1) := by decide +kernel
theorem dX7_copy_92 : decode cX7_copy 92 = .ok (.istore_n 2, 1) := by decide +kernel
theorem dX7_copy_93 : decode cX7_copy 93 = .ok (.iload_n 2, 1) := by decide +kernel
theorem dX7_copy_94 : decode cX7_copy 94 = .ok (.aload_n 1, 1) := by decide +kernel
theorem dX7_copy_95 : decode cX7_copy 95 = .ok (.getfield 43, 3) := by decide +kernel
theorem dX7_copy_98 : decode cX7_copy 98 = .ok (.if_icmp .ge 45, 3) := by decide +kernel
theorem dX7_copy_101 : decode cX7_copy 101 = .ok (.aload_n 0, 1) := by decide +kernel
theorem dX7_copy_102 : decode cX7_copy 102 = .ok (.getfield 23, 3) := by decide +kernel
theorem dX7_copy_105 : decode cX7_copy 105 = .ok (.iload_n 2, 1) := by decide +kernel
theorem dX7_copy_106 : decode cX7_copy 106 = .ok (.aload_n 1, 1) := by decide +kernel
theorem dX7_copy_107 : decode cX7_copy 107 = .ok (.getfield 23, 3) := by decide +kernel
theorem dX7_copy_110 : decode cX7_copy 110 = .ok (.iload_n 2, 1) := by decide +kernel
theorem dX7_copy_111 : decode cX7_copy 111 = .ok (.iaload, 1) := by decide +kernel
theorem dX7_copy_112 : decode cX7_copy 112 = .ok (.iastore, 1) := by decide +kernel
theorem dX7_copy_113 : decode cX7_copy 113 = .ok (.aload_n 0, 1) := by decide +kernel
theorem dX7_copy_114 : decode cX7_copy 114 = .ok (.getfield 27, 3) := by decide +kernel
theorem dX7_copy_117 : decode cX7_copy 117 = .ok (.iload_n 2, 1) := by decide +kernel
theorem dX7_copy_118 : decode cX7_copy 118 = .ok (.aload_n 1, 1) := by decide +kernel
theorem dX7_copy_119 : decode cX7_copy 119 = .ok (.getfield 27, 3) := by decide +kernel
theorem dX7_copy_122 : decode cX7_copy 122 = .ok (.iload_n 2, 1) := by decide +kernel
theorem dX7_copy_123 : decode cX7_copy 123 = .ok (.iaload, 1) := by decide +kernel
theorem dX7_copy_124 : decode cX7_copy 124 = .ok (.iastore, 1) := by decide +kernel
theorem dX7_copy_125 : decode cX7_copy 125 = .ok (.aload_n 0, 1) := by decide +kernel
theorem dX7_copy_126 : decode cX7_copy 126 = .ok (.getfield 30, 3) := by decide +kernel
theorem dX7_copy_129 : decode cX7_copy 129 = .ok (.iload_n 2, 1) := by decide +kernel
theorem dX7_copy_130 : decode cX7_copy 130 = .ok (.aload_n 1, 1) := by decide +kernel
theorem dX7_copy_131 : decode cX7_copy 131 = .ok (.getfield 30, 3) := by decide +kernel
theorem dX7_copy_134 : decode cX7_copy 134 = .ok (.iload_n 2, 1) := by decide +kernel
theorem dX7_copy_135 : decode cX7_copy 135 = .ok (.iaload, 1) := by decide +kernel
theorem dX7_copy_136 : decode cX7_copy 136 = .ok (.iastore, 1) := by decide +kernel
theorem dX7_copy_137 : decode cX7_copy 137 = .ok (.iinc 2 1, 3) := by decide +kernel
theorem dX7_copy_140 : decode cX7_copy 140 = .ok (.goto (-47), 3) := by decide +kernel
theorem dX7_copy_143 : decode cX7_copy 143 = .ok (.aload_n 0, 1) := by decide +kernel
theorem dX7_copy_144 : decode cX7_copy 144 = .ok (.aload_n 1, 1) := by decide +kernel
theorem dX7_copy_145 : decode cX7_copy 145 = .ok (.getfield 43, 3) := by decide +kernel
theorem dX7_copy_148 : decode cX7_copy 148 = .ok (.putfield 43, 3) := by decide +kernel
theorem dX7_copy_151 : decode cX7_copy 151 = .ok (.return_, 1) := by decide +kernel
def f_X7_copy_L2 (Λ : List Ly) (p0 : Nat) (p1 : Nat) (k28 : Int32 → Dt → Option Dt) : Nat → Int32 → Dt → Option Dt
  | 0, _, _ => none
  | n + 1, v2, d => if (4 : Int32) ≤ v2 then (k28 v2 d) else (Option.bind (rf Λ p0 7 0) fun q2 => Option.bind (ra Λ q2 5 v2) fun q3 => Option.bind (rf Λ p1 7 0) fun q4 => Option.bind (ra Λ q4 5 v2) fun q5 => if clsAt Λ q3 = some 4 then (Option.bind (f_X4_copy Λ d q3 q5) fun z7 => f_X7_copy_L2 Λ p0 p1 k28 n (v2 + (1 : Int32)) z7) else none)
def f_X7_copy_L30 (Λ : List Ly) (p0 : Nat) (p1 : Nat) (k59 : Int32 → Dt → Option Dt) : Nat → Int32 → Dt → Option Dt
  | 0, _, _ => none
  | n + 1, v2, d => if clsAt Λ p1 = some 7 then (if (d.1 p1 2) ≤ v2 then (k59 v2 d) else (Option.bind (rf Λ p0 7 1) fun q11 => Option.bind (ra Λ q11 4 v2) fun q12 => Option.bind (rf Λ p1 7 1) fun q13 => Option.bind (ra Λ q13 4 v2) fun q14 => if clsAt Λ q12 = some 1 then (Option.bind (f_X1_copy Λ d q12 q14) fun z16 => f_X7_copy_L30 Λ p0 p1 k59 n (v2 + (1 : Int32)) z16) else none)) else none
def f_X7_copy_L93 (Λ : List Ly) (p0 : Nat) (p1 : Nat) : Nat → Int32 → Dt → Option Dt
  | 0, _, _ => none
  | n + 1, v2, d => if clsAt Λ p1 = some 7 then (if (d.1 p1 9) ≤ v2 then (if clsAt Λ p0 = some 7 then (some (pI d p0 9 (d.1 p1 9))) else none) else (Option.bind (rf Λ p0 7 6) fun q23 => Option.bind (rf Λ p1 7 6) fun q24 => if okA Λ q24 1 v2 = true then (if okA Λ q23 1 v2 = true then (Option.bind (rf Λ p0 7 7) fun q27 => Option.bind (rf Λ p1 7 7) fun q28 => if okA Λ q28 1 v2 = true then (if okA Λ q27 1 v2 = true then (Option.bind (rf Λ p0 7 8) fun q31 => Option.bind (rf Λ p1 7 8) fun q32 => if okA Λ q32 1 v2 = true then (if okA Λ q31 1 v2 = true then (f_X7_copy_L93 Λ p0 p1 n (v2 + (1 : Int32)) (pI (pI (pI d q23 (v2).toNatClampNeg (d.1 q24 (v2).toNatClampNeg)) q27 (v2).toNatClampNeg ((pI d q23 (v2).toNatClampNeg (d.1 q24 (v2).toNatClampNeg)).1 q28 (v2).toNatClampNeg)) q31 (v2).toNatClampNeg ((pI (pI d q23 (v2).toNatClampNeg (d.1 q24 (v2).toNatClampNeg)) q27 (v2).toNatClampNeg ((pI d q23 (v2).toNatClampNeg (d.1 q24 (v2).toNatClampNeg)).1 q28 (v2).toNatClampNeg)).1 q32 (v2).toNatClampNeg))) else none) else none) else none) else none) else none) else none)) else none
def f_X7_copy (Λ : List Ly) (d : Dt) (p0 : Nat) (p1 : Nat) : Option Dt := f_X7_copy_L2 Λ p0 p1 (fun x8_2 d8 => f_X7_copy_L30 Λ p0 p1 (fun x17_2 d17 => if clsAt Λ p1 = some 7 then (if clsAt Λ p0 = some 7 then (f_X7_copy_L93 Λ p0 p1 FU (0 : Int32) (pI (pI (pI (pI d17 p0 2 (d17.1 p1 2)) p0 3 ((pI d17 p0 2 (d17.1 p1 2)).1 p1 3)) p0 4 ((pI (pI d17 p0 2 (d17.1 p1 2)) p0 3 ((pI d17 p0 2 (d17.1 p1 2)).1 p1 3)).1 p1 4)) p0 5 ((pI (pI (pI d17 p0 2 (d17.1 p1 2)) p0 3 ((pI d17 p0 2 (d17.1 p1 2)).1 p1 3)) p0 4 ((pI (pI d17 p0 2 (d17.1 p1 2)) p0 3 ((pI d17 p0 2 (d17.1 p1 2)).1 p1 3)).1 p1 4)).1 p1 5))) else none) else none) FU (0 : Int32) d8) FU (0 : Int32) d
set_option maxHeartbeats 4000000 in
set_option maxRecDepth 100000 in
theorem w_X7_copy_L2 {p : Program} {l : Launch} {e : Env} {s : State} {m : MethodId} {args : Array Value} {below : List Frame} {meth : Method} {c : Code} {Γ : Cx} {Λ : List Ly} {z : Dt} (C0 : Ct Γ p s m args c cX7_copy 3 "SeasonBound$World") (hr : meth.sig.returnType = none) (hlocks : meth.locks = false) (k28 : Int32 → Dt → Option Dt) (p0 : Nat) (p1 : Nat)
    (hk28 : ∀ (v2 : Int32) (d : Dt), (k28 v2 d = some z) → ∀ (H : Heap) (locs : List Loc) (ls : Array Slot), Hs Γ Λ d s H locs → lv_has ls 3 [(0, .ref (ad Γ.2.2.1 p0)), (1, .ref (ad Γ.2.2.1 p1)), (2, .int v2)] → W p l e { frames := 1, cells := 0, slots := 0, locals := 21 } s m args below meth c H locs 0 0 (MQ below (QN Γ Λ z none) args s 0 0 (AP Γ)) (F0 m 28 ls [])) :
    ∀ (n : Nat) (v2 : Int32) (d : Dt), f_X7_copy_L2 Λ p0 p1 k28 n v2 d = some z → ∀ (H : Heap) (locs : List Loc) (ls : Array Slot), Hs Γ Λ d s H locs → lv_has ls 3 [(0, .ref (ad Γ.2.2.1 p0)), (1, .ref (ad Γ.2.2.1 p1)), (2, .int v2)] → W p l e { frames := 1, cells := 0, slots := 0, locals := 21 } s m args below meth c H locs 0 0 (MQ below (QN Γ Λ z none) args s 0 0 (AP Γ)) (F0 m 2 ls []) := by
  obtain ⟨hx, hb, hml, hown, hts, hK⟩ := id C0
  intro n
  induction n with
  | zero =>
    intro v2 d hf
    cases hf
  | succ n ih =>
    intro v2 d hf H locs ls hH hl
    unfold f_X7_copy_L2 at hf
    refine lv_iload_n hx hb dX7_copy_2 rfl (lv_at hl 2 rfl) ?_
    refine lv_iconst (v := (4 : Int32)) hx hb dX7_copy_3 (by decide) ?_
    refine lv_icmp_ge (tgt := 28) hx hb dX7_copy_4 (by decide) (fun c1 => ?_) (fun c1 => ?_)
    · replace hf := it hf c1
      exact hk28 v2 d hf _ _ _ hH (lv_sub hl [0, 1, 2] rfl)
    · replace hf := ie hf c1
      refine lv_aload_n hx hb dX7_copy_7 rfl (lv_at hl 0 rfl) ?_
      obtain ⟨q2, g2, hf⟩ := ob hf
      refine r_getr C0 hH fl_X7_11 g2 dX7_copy_8 ?_
      refine lv_iload_n hx hb dX7_copy_11 rfl (lv_at hl 2 rfl) ?_
      obtain ⟨q3, g3, hf⟩ := ob hf
      refine r_aald (C := "SeasonBound$Season") C0 hH g3 (by decide) rfl dX7_copy_12 ?_
      refine lv_aload_n hx hb dX7_copy_13 rfl (lv_at hl 1 rfl) ?_
      obtain ⟨q4, g4, hf⟩ := ob hf
      refine r_getr C0 hH fl_X7_11 g4 dX7_copy_14 ?_
      refine lv_iload_n hx hb dX7_copy_17 rfl (lv_at hl 2 rfl) ?_
      obtain ⟨q5, g5, hf⟩ := ob hf
      refine r_aald (C := "SeasonBound$Season") C0 hH g5 (by decide) rfl dX7_copy_18 ?_
      obtain ⟨g6, hf⟩ := gd hf
      obtain ⟨z7, h7, hf⟩ := ob hf
      refine r_callVv (rest := []) C0 hH (c_X4_copy Γ l Λ d q3 q5 z7 h7) cv_X7_61 g6 (by decide) rfl hl.1 rfl (Nat.le_of_ble_eq_true rfl) dX7_copy_19 (by decide) (fun H locs hH => ?_)
      refine lv_iinc (v := (v2 + (1 : Int32))) (lv' := [(2, .int (v2 + (1 : Int32))), (0, .ref (ad Γ.2.2.1 p0)), (1, .ref (ad Γ.2.2.1 p1))]) hx hb dX7_copy_22 hl (k := 2) rfl (congrArg (fun w => v2 + w) (by decide)) (by decide) rfl (fun ls hl => ?_)
      refine lv_goto (tgt := 2) hx hb dX7_copy_25 (by decide) ?_
      exact ih (v2 + (1 : Int32)) z7 hf _ _ _ hH (lv_sub hl [1, 2, 0] rfl)
set_option maxHeartbeats 4000000 in
set_option maxRecDepth 100000 in
theorem w_X7_copy_L30 {p : Program} {l : Launch} {e : Env} {s : State} {m : MethodId} {args : Array Value} {below : List Frame} {meth : Method} {c : Code} {Γ : Cx} {Λ : List Ly} {z : Dt} (C0 : Ct Γ p s m args c cX7_copy 3 "SeasonBound$World") (hr : meth.sig.returnType = none) (hlocks : meth.locks = false) (k59 : Int32 → Dt → Option Dt) (p0 : Nat) (p1 : Nat)
    (hk59 : ∀ (v2 : Int32) (d : Dt), (k59 v2 d = some z) → ∀ (H : Heap) (locs : List Loc) (ls : Array Slot), Hs Γ Λ d s H locs → lv_has ls 3 [(0, .ref (ad Γ.2.2.1 p0)), (1, .ref (ad Γ.2.2.1 p1)), (2, .int v2)] → W p l e { frames := 1, cells := 0, slots := 0, locals := 21 } s m args below meth c H locs 0 0 (MQ below (QN Γ Λ z none) args s 0 0 (AP Γ)) (F0 m 59 ls [])) :
    ∀ (n : Nat) (v2 : Int32) (d : Dt), f_X7_copy_L30 Λ p0 p1 k59 n v2 d = some z → ∀ (H : Heap) (locs : List Loc) (ls : Array Slot), Hs Γ Λ d s H locs → lv_has ls 3 [(0, .ref (ad Γ.2.2.1 p0)), (1, .ref (ad Γ.2.2.1 p1)), (2, .int v2)] → W p l e { frames := 1, cells := 0, slots := 0, locals := 21 } s m args below meth c H locs 0 0 (MQ below (QN Γ Λ z none) args s 0 0 (AP Γ)) (F0 m 30 ls []) := by
  obtain ⟨hx, hb, hml, hown, hts, hK⟩ := id C0
  intro n
  induction n with
  | zero =>
    intro v2 d hf
    cases hf
  | succ n ih =>
    intro v2 d hf H locs ls hH hl
    unfold f_X7_copy_L30 at hf
    refine lv_iload_n hx hb dX7_copy_30 rfl (lv_at hl 2 rfl) ?_
    refine lv_aload_n hx hb dX7_copy_31 rfl (lv_at hl 1 rfl) ?_
    obtain ⟨g9, hf⟩ := gd hf
    refine r_geti C0 hH fl_X7_39 g9 rfl dX7_copy_32 ?_
    refine lv_icmp_ge (tgt := 59) hx hb dX7_copy_35 (by decide) (fun c10 => ?_) (fun c10 => ?_)
    · replace hf := it hf c10
      exact hk59 v2 d hf _ _ _ hH (lv_sub hl [0, 1, 2] rfl)
    · replace hf := ie hf c10
      refine lv_aload_n hx hb dX7_copy_38 rfl (lv_at hl 0 rfl) ?_
      obtain ⟨q11, g11, hf⟩ := ob hf
      refine r_getr C0 hH fl_X7_19 g11 dX7_copy_39 ?_
      refine lv_iload_n hx hb dX7_copy_42 rfl (lv_at hl 2 rfl) ?_
      obtain ⟨q12, g12, hf⟩ := ob hf
      refine r_aald (C := "SeasonBound$Child") C0 hH g12 (by decide) rfl dX7_copy_43 ?_
      refine lv_aload_n hx hb dX7_copy_44 rfl (lv_at hl 1 rfl) ?_
      obtain ⟨q13, g13, hf⟩ := ob hf
      refine r_getr C0 hH fl_X7_19 g13 dX7_copy_45 ?_
      refine lv_iload_n hx hb dX7_copy_48 rfl (lv_at hl 2 rfl) ?_
      obtain ⟨q14, g14, hf⟩ := ob hf
      refine r_aald (C := "SeasonBound$Child") C0 hH g14 (by decide) rfl dX7_copy_49 ?_
      obtain ⟨g15, hf⟩ := gd hf
      obtain ⟨z16, h16, hf⟩ := ob hf
      refine r_callVv (rest := []) C0 hH (c_X1_copy Γ l Λ d q12 q14 z16 h16) cv_X7_65 g15 (by decide) rfl hl.1 rfl (Nat.le_of_ble_eq_true rfl) dX7_copy_50 (by decide) (fun H locs hH => ?_)
      refine lv_iinc (v := (v2 + (1 : Int32))) (lv' := [(2, .int (v2 + (1 : Int32))), (0, .ref (ad Γ.2.2.1 p0)), (1, .ref (ad Γ.2.2.1 p1))]) hx hb dX7_copy_53 hl (k := 2) rfl (congrArg (fun w => v2 + w) (by decide)) (by decide) rfl (fun ls hl => ?_)
      refine lv_goto (tgt := 30) hx hb dX7_copy_56 (by decide) ?_
      exact ih (v2 + (1 : Int32)) z16 hf _ _ _ hH (lv_sub hl [1, 2, 0] rfl)
set_option maxHeartbeats 4000000 in
set_option maxRecDepth 100000 in
theorem w_X7_copy_L93 {p : Program} {l : Launch} {e : Env} {s : State} {m : MethodId} {args : Array Value} {below : List Frame} {meth : Method} {c : Code} {Γ : Cx} {Λ : List Ly} {z : Dt} (C0 : Ct Γ p s m args c cX7_copy 3 "SeasonBound$World") (hr : meth.sig.returnType = none) (hlocks : meth.locks = false) (p0 : Nat) (p1 : Nat) :
    ∀ (n : Nat) (v2 : Int32) (d : Dt), f_X7_copy_L93 Λ p0 p1 n v2 d = some z → ∀ (H : Heap) (locs : List Loc) (ls : Array Slot), Hs Γ Λ d s H locs → lv_has ls 3 [(0, .ref (ad Γ.2.2.1 p0)), (1, .ref (ad Γ.2.2.1 p1)), (2, .int v2)] → W p l e { frames := 1, cells := 0, slots := 0, locals := 21 } s m args below meth c H locs 0 0 (MQ below (QN Γ Λ z none) args s 0 0 (AP Γ)) (F0 m 93 ls []) := by
  obtain ⟨hx, hb, hml, hown, hts, hK⟩ := id C0
  intro n
  induction n with
  | zero =>
    intro v2 d hf
    cases hf
  | succ n ih =>
    intro v2 d hf H locs ls hH hl
    unfold f_X7_copy_L93 at hf
    refine lv_iload_n hx hb dX7_copy_93 rfl (lv_at hl 2 rfl) ?_
    refine lv_aload_n hx hb dX7_copy_94 rfl (lv_at hl 1 rfl) ?_
    obtain ⟨g20, hf⟩ := gd hf
    refine r_geti C0 hH fl_X7_43 g20 rfl dX7_copy_95 ?_
    refine lv_icmp_ge (tgt := 143) hx hb dX7_copy_98 (by decide) (fun c21 => ?_) (fun c21 => ?_)
    · replace hf := it hf c21
      refine lv_aload_n hx hb dX7_copy_143 rfl (lv_at hl 0 rfl) ?_
      refine lv_aload_n hx hb dX7_copy_144 rfl (lv_at hl 1 rfl) ?_
      refine r_geti C0 hH fl_X7_43 g20 rfl dX7_copy_145 ?_
      obtain ⟨g22, hf⟩ := gd hf
      refine r_puti C0 hH fw_X7_43 g22 rfl dX7_copy_148 (fun H locs hH => ?_)
      obtain rfl := Option.some.inj hf
      exact r_vret C0 hr hlocks hH dX7_copy_151
    · replace hf := ie hf c21
      refine lv_aload_n hx hb dX7_copy_101 rfl (lv_at hl 0 rfl) ?_
      obtain ⟨q23, g23, hf⟩ := ob hf
      refine r_getr C0 hH fl_X7_23 g23 dX7_copy_102 ?_
      refine lv_iload_n hx hb dX7_copy_105 rfl (lv_at hl 2 rfl) ?_
      refine lv_aload_n hx hb dX7_copy_106 rfl (lv_at hl 1 rfl) ?_
      obtain ⟨q24, g24, hf⟩ := ob hf
      refine r_getr C0 hH fl_X7_23 g24 dX7_copy_107 ?_
      refine lv_iload_n hx hb dX7_copy_110 rfl (lv_at hl 2 rfl) ?_
      obtain ⟨g25, hf⟩ := gd hf
      refine r_iald C0 hH g25 dX7_copy_111 ?_
      obtain ⟨g26, hf⟩ := gd hf
      refine r_iast C0 hH g26 dX7_copy_112 (fun H locs hH => ?_)
      refine lv_aload_n hx hb dX7_copy_113 rfl (lv_at hl 0 rfl) ?_
      obtain ⟨q27, g27, hf⟩ := ob hf
      refine r_getr C0 hH fl_X7_27 g27 dX7_copy_114 ?_
      refine lv_iload_n hx hb dX7_copy_117 rfl (lv_at hl 2 rfl) ?_
      refine lv_aload_n hx hb dX7_copy_118 rfl (lv_at hl 1 rfl) ?_
      obtain ⟨q28, g28, hf⟩ := ob hf
      refine r_getr C0 hH fl_X7_27 g28 dX7_copy_119 ?_
      refine lv_iload_n hx hb dX7_copy_122 rfl (lv_at hl 2 rfl) ?_
      obtain ⟨g29, hf⟩ := gd hf
      refine r_iald C0 hH g29 dX7_copy_123 ?_
      obtain ⟨g30, hf⟩ := gd hf
      refine r_iast C0 hH g30 dX7_copy_124 (fun H locs hH => ?_)
      refine lv_aload_n hx hb dX7_copy_125 rfl (lv_at hl 0 rfl) ?_
      obtain ⟨q31, g31, hf⟩ := ob hf
      refine r_getr C0 hH fl_X7_30 g31 dX7_copy_126 ?_
      refine lv_iload_n hx hb dX7_copy_129 rfl (lv_at hl 2 rfl) ?_
      refine lv_aload_n hx hb dX7_copy_130 rfl (lv_at hl 1 rfl) ?_
      obtain ⟨q32, g32, hf⟩ := ob hf
      refine r_getr C0 hH fl_X7_30 g32 dX7_copy_131 ?_
      refine lv_iload_n hx hb dX7_copy_134 rfl (lv_at hl 2 rfl) ?_
      obtain ⟨g33, hf⟩ := gd hf
      refine r_iald C0 hH g33 dX7_copy_135 ?_
      obtain ⟨g34, hf⟩ := gd hf
      refine r_iast C0 hH g34 dX7_copy_136 (fun H locs hH => ?_)
      refine lv_iinc (v := (v2 + (1 : Int32))) (lv' := [(2, .int (v2 + (1 : Int32))), (0, .ref (ad Γ.2.2.1 p0)), (1, .ref (ad Γ.2.2.1 p1))]) hx hb dX7_copy_137 hl (k := 2) rfl (congrArg (fun w => v2 + w) (by decide)) (by decide) rfl (fun ls hl => ?_)
      refine lv_goto (tgt := 93) hx hb dX7_copy_140 (by decide) ?_
      exact ih (v2 + (1 : Int32)) (pI (pI (pI d q23 (v2).toNatClampNeg (d.1 q24 (v2).toNatClampNeg)) q27 (v2).toNatClampNeg ((pI d q23 (v2).toNatClampNeg (d.1 q24 (v2).toNatClampNeg)).1 q28 (v2).toNatClampNeg)) q31 (v2).toNatClampNeg ((pI (pI d q23 (v2).toNatClampNeg (d.1 q24 (v2).toNatClampNeg)) q27 (v2).toNatClampNeg ((pI d q23 (v2).toNatClampNeg (d.1 q24 (v2).toNatClampNeg)).1 q28 (v2).toNatClampNeg)).1 q32 (v2).toNatClampNeg)) hf _ _ _ hH (lv_sub hl [1, 2, 0] rfl)
set_option maxHeartbeats 4000000 in
set_option maxRecDepth 100000 in
theorem c_X7_copy (Γ : Cx) (l : Launch) (Λ : List Ly) (d : Dt) (p0 : Nat) (p1 : Nat) (z : Dt) (hf : f_X7_copy Λ d p0 p1 = some z) : Cn Γ l yX7_copy cX7_copy 3 none 1 21 [.ref (ad Γ.2.2.1 p0), .ref (ad Γ.2.2.1 p1)] Λ d none z := by
  refine Cn.of (own := "SeasonBound$World") (by decide +kernel) rfl (Nat.le_of_ble_eq_true rfl) ?_
  intro p e s m below meth c C0 hr hlocks hH ls hl
  have hl : lv_has ls 3 [(0, .ref (ad Γ.2.2.1 p0)), (1, .ref (ad Γ.2.2.1 p1))] := hl
  obtain ⟨hx, hb, hml, hown, hts, hK⟩ := id C0
  unfold f_X7_copy at hf
  refine lv_iconst (v := (0 : Int32)) hx hb dX7_copy_0 (by decide) ?_
  refine lv_istore_n (lv' := [(2, .int (0 : Int32)), (0, .ref (ad Γ.2.2.1 p0)), (1, .ref (ad Γ.2.2.1 p1))]) hx hb dX7_copy_1 rfl hl (by decide) rfl (fun ls hl => ?_)
  refine w_X7_copy_L2 C0 hr hlocks _ p0 p1 ?k28 FU (0 : Int32) d hf _ _ _ hH (lv_sub hl [1, 2, 0] rfl)
  case k28 =>
    intro x8_2 d8 hf H locs ls hH hl
    refine lv_iconst (v := (0 : Int32)) hx hb dX7_copy_28 (by decide) ?_
    refine lv_istore_n (lv' := [(2, .int (0 : Int32)), (0, .ref (ad Γ.2.2.1 p0)), (1, .ref (ad Γ.2.2.1 p1))]) hx hb dX7_copy_29 rfl hl (by decide) rfl (fun ls hl => ?_)
    refine w_X7_copy_L30 C0 hr hlocks _ p0 p1 ?k59 FU (0 : Int32) d8 hf _ _ _ hH (lv_sub hl [1, 2, 0] rfl)
    case k59 =>
      intro x17_2 d17 hf H locs ls hH hl
      refine lv_aload_n hx hb dX7_copy_59 rfl (lv_at hl 0 rfl) ?_
      refine lv_aload_n hx hb dX7_copy_60 rfl (lv_at hl 1 rfl) ?_
      obtain ⟨g18, hf⟩ := gd hf
      refine r_geti C0 hH fl_X7_39 g18 rfl dX7_copy_61 ?_
      obtain ⟨g19, hf⟩ := gd hf
      refine r_puti C0 hH fw_X7_39 g19 rfl dX7_copy_64 (fun H locs hH => ?_)
      refine lv_aload_n hx hb dX7_copy_67 rfl (lv_at hl 0 rfl) ?_
      refine lv_aload_n hx hb dX7_copy_68 rfl (lv_at hl 1 rfl) ?_
      refine r_geti C0 hH fl_X7_49 g18 rfl dX7_copy_69 ?_
      refine r_puti C0 hH fw_X7_49 g19 rfl dX7_copy_72 (fun H locs hH => ?_)
      refine lv_aload_n hx hb dX7_copy_75 rfl (lv_at hl 0 rfl) ?_
      refine lv_aload_n hx hb dX7_copy_76 rfl (lv_at hl 1 rfl) ?_
      refine r_geti C0 hH fl_X7_55 g18 rfl dX7_copy_77 ?_
      refine r_puti C0 hH fw_X7_55 g19 rfl dX7_copy_80 (fun H locs hH => ?_)
      refine lv_aload_n hx hb dX7_copy_83 rfl (lv_at hl 0 rfl) ?_
      refine lv_aload_n hx hb dX7_copy_84 rfl (lv_at hl 1 rfl) ?_
      refine r_geti C0 hH fl_X7_58 g18 rfl dX7_copy_85 ?_
      refine r_puti C0 hH fw_X7_58 g19 rfl dX7_copy_88 (fun H locs hH => ?_)
      refine lv_iconst (v := (0 : Int32)) hx hb dX7_copy_91 (by decide) ?_
      refine lv_istore_n (lv' := [(2, .int (0 : Int32)), (0, .ref (ad Γ.2.2.1 p0)), (1, .ref (ad Γ.2.2.1 p1))]) hx hb dX7_copy_92 rfl hl (by decide) rfl (fun ls hl => ?_)
      refine w_X7_copy_L93 C0 hr hlocks p0 p1 FU (0 : Int32) (pI (pI (pI (pI d17 p0 2 (d17.1 p1 2)) p0 3 ((pI d17 p0 2 (d17.1 p1 2)).1 p1 3)) p0 4 ((pI (pI d17 p0 2 (d17.1 p1 2)) p0 3 ((pI d17 p0 2 (d17.1 p1 2)).1 p1 3)).1 p1 4)) p0 5 ((pI (pI (pI d17 p0 2 (d17.1 p1 2)) p0 3 ((pI d17 p0 2 (d17.1 p1 2)).1 p1 3)) p0 4 ((pI (pI d17 p0 2 (d17.1 p1 2)) p0 3 ((pI d17 p0 2 (d17.1 p1 2)).1 p1 3)).1 p1 4)).1 p1 5)) hf _ _ _ hH (lv_sub hl [1, 2, 0] rfl)
theorem dX7_passOne_0 : decode cX7_passOne 0 = .ok (.iconst 0, 1) := by decide +kernel
theorem dX7_passOne_1 : decode cX7_passOne 1 = .ok (.istore_n 1, 1) := by decide +kernel
theorem dX7_passOne_2 : decode cX7_passOne 2 = .ok (.iload_n 1, 1) := by decide +kernel
theorem dX7_passOne_3 : decode cX7_passOne 3 = .ok (.aload_n 0, 1) := by decide +kernel
theorem dX7_passOne_4 : decode cX7_passOne 4 = .ok (.getfield 39, 3) := by decide +kernel
theorem dX7_passOne_7 : decode cX7_passOne 7 = .ok (.if_icmp .ge 43, 3) := by decide +kernel
theorem dX7_passOne_10 : decode cX7_passOne 10 = .ok (.aload_n 0, 1) := by decide +kernel
theorem dX7_passOne_11 : decode cX7_passOne 11 = .ok (.getfield 19, 3) := by decide +kernel
theorem dX7_passOne_14 : decode cX7_passOne 14 = .ok (.iload_n 1, 1) := by decide +kernel
theorem dX7_passOne_15 : decode cX7_passOne 15 = .ok (.aaload, 1) := by decide +kernel
theorem dX7_passOne_16 : decode cX7_passOne 16 = .ok (.aload_n 0, 1) := by decide +kernel
theorem dX7_passOne_17 : decode cX7_passOne 17 = .ok (.getfield 49, 3) := by decide +kernel
theorem dX7_passOne_20 : decode cX7_passOne 20 = .ok (.invokevirtual 104, 3) := by decide +kernel
theorem dX7_passOne_23 : decode cX7_passOne 23 = .ok (.ifCond .eq 21, 3) := by decide +kernel
theorem dX7_passOne_26 : decode cX7_passOne 26 = .ok (.aload_n 0, 1) := by decide +kernel
theorem dX7_passOne_27 : decode cX7_passOne 27 = .ok (.getfield 19, 3) := by decide +kernel
theorem dX7_passOne_30 : decode cX7_passOne 30 = .ok (.iload_n 1, 1) := by decide +kernel
theorem dX7_passOne_31 : decode cX7_passOne 31 = .ok (.aaload, 1) := by decide +kernel
theorem dX7_passOne_32 : decode cX7_passOne 32 = .ok (.aload_n 0, 1) := by decide +kernel
theorem dX7_passOne_33 : decode cX7_passOne 33 = .ok (.getfield 11, 3) := by decide +kernel
theorem dX7_passOne_36 : decode cX7_passOne 36 = .ok (.aload_n 0, 1) := by decide +kernel
theorem dX7_passOne_37 : decode cX7_passOne 37 = .ok (.getfield 49, 3) := by decide +kernel
theorem dX7_passOne_40 : decode cX7_passOne 40 = .ok (.aaload, 1) := by decide +kernel
theorem dX7_passOne_41 : decode cX7_passOne 41 = .ok (.invokevirtual 107, 3) := by decide +kernel
theorem dX7_passOne_44 : decode cX7_passOne 44 = .ok (.iinc 1 1, 3) := by decide +kernel
theorem dX7_passOne_47 : decode cX7_passOne 47 = .ok (.goto (-45), 3) := by decide +kernel
theorem dX7_passOne_50 : decode cX7_passOne 50 = .ok (.aload_n 0, 1) := by decide +kernel
theorem dX7_passOne_51 : decode cX7_passOne 51 = .ok (.dup, 1) := by decide +kernel
theorem dX7_passOne_52 : decode cX7_passOne 52 = .ok (.getfield 55, 3) := by decide +kernel
theorem dX7_passOne_55 : decode cX7_passOne 55 = .ok (.iconst 1, 1) := by decide +kernel
theorem dX7_passOne_56 : decode cX7_passOne 56 = .ok (.isub, 1) := by decide +kernel
theorem dX7_passOne_57 : decode cX7_passOne 57 = .ok (.putfield 55, 3) := by decide +kernel
theorem dX7_passOne_60 : decode cX7_passOne 60 = .ok (.aload_n 0, 1) := by decide +kernel
theorem dX7_passOne_61 : decode cX7_passOne 61 = .ok (.getfield 55, 3) := by decide +kernel
theorem dX7_passOne_64 : decode cX7_passOne 64 = .ok (.ifCond .ne 31, 3) := by decide +kernel
theorem dX7_passOne_67 : decode cX7_passOne 67 = .ok (.aload_n 0, 1) := by decide +kernel
theorem dX7_passOne_68 : decode cX7_passOne 68 = .ok (.aload_n 0, 1) := by decide +kernel
theorem dX7_passOne_69 : decode cX7_passOne 69 = .ok (.getfield 49, 3) := by decide +kernel
theorem dX7_passOne_72 : decode cX7_passOne 72 = .ok (.iconst 1, 1) := by decide +kernel
theorem dX7_passOne_73 : decode cX7_passOne 73 = .ok (.iadd, 1) := by decide +kernel
theorem dX7_passOne_74 : decode cX7_passOne 74 = .ok (.iconst 4, 1) := by decide +kernel
theorem dX7_passOne_75 : decode cX7_passOne 75 = .ok (.irem, 1) := by decide +kernel
theorem dX7_passOne_76 : decode cX7_passOne 76 = .ok (.putfield 49, 3) := by decide +kernel
theorem dX7_passOne_79 : decode cX7_passOne 79 = .ok (.aload_n 0, 1) := by decide +kernel
theorem dX7_passOne_80 : decode cX7_passOne 80 = .ok (.aload_n 0, 1) := by decide +kernel
theorem dX7_passOne_81 : decode cX7_passOne 81 = .ok (.getfield 11, 3) := by decide +kernel
theorem dX7_passOne_84 : decode cX7_passOne 84 = .ok (.aload_n 0, 1) := by decide +kernel
theorem dX7_passOne_85 : decode cX7_passOne 85 = .ok (.getfield 49, 3) := by decide +kernel
theorem dX7_passOne_88 : decode cX7_passOne 88 = .ok (.aaload, 1) := by decide +kernel
theorem dX7_passOne_89 : decode cX7_passOne 89 = .ok (.getfield 52, 3) := by decide +kernel
theorem dX7_passOne_92 : decode cX7_passOne 92 = .ok (.putfield 55, 3) := by decide +kernel
theorem dX7_passOne_95 : decode cX7_passOne 95 = .ok (.aload_n 0, 1) := by decide +kernel
theorem dX7_passOne_96 : decode cX7_passOne 96 = .ok (.dup, 1) := by decide +kernel
theorem dX7_passOne_97 : decode cX7_passOne 97 = .ok (.getfield 58, 3) := by decide +kernel
theorem dX7_passOne_100 : decode cX7_passOne 100 = .ok (.iconst 1, 1) := by decide +kernel
theorem dX7_passOne_101 : decode cX7_passOne 101 = .ok (.iadd, 1) := by decide +kernel
theorem dX7_passOne_102 : decode cX7_passOne 102 = .ok (.putfield 58, 3) := by decide +kernel
theorem dX7_passOne_105 : decode cX7_passOne 105 = .ok (.return_, 1) := by decide +kernel
def f_X7_passOne_L2 (Λ : List Ly) (p0 : Nat) (k50 : Int32 → Dt → Option Dt) : Nat → Int32 → Dt → Option Dt
  | 0, _, _ => none
  | n + 1, v1, d => if clsAt Λ p0 = some 7 then (if (d.1 p0 2) ≤ v1 then (k50 v1 d) else (Option.bind (rf Λ p0 7 1) fun q3 => Option.bind (ra Λ q3 4 v1) fun q4 => if clsAt Λ q4 = some 1 then (Option.bind (f_X1_livesIn Λ d q4 (d.1 p0 3)) fun z6 => if z6 = 0 then (f_X7_passOne_L2 Λ p0 k50 n (v1 + (1 : Int32)) d) else (Option.bind (rf Λ p0 7 0) fun q8 => Option.bind (ra Λ q8 5 (d.1 p0 3)) fun q9 => Option.bind (f_X1_liveWeekOf Λ d q4 q9) fun z10 => f_X7_passOne_L2 Λ p0 k50 n (v1 + (1 : Int32)) z10)) else none)) else none
def f_X7_passOne (Λ : List Ly) (d : Dt) (p0 : Nat) : Option Dt := f_X7_passOne_L2 Λ p0 (fun x11_1 d11 => if clsAt Λ p0 = some 7 then (if ((pI d11 p0 4 ((d11.1 p0 4) - (1 : Int32))).1 p0 4) = 0 then (Option.bind (rf Λ p0 7 0) fun q14 => Option.bind (ra Λ q14 5 ((pI (pI d11 p0 4 ((d11.1 p0 4) - (1 : Int32))) p0 3 ((((pI d11 p0 4 ((d11.1 p0 4) - (1 : Int32))).1 p0 3) + (1 : Int32)) - (((pI d11 p0 4 ((d11.1 p0 4) - (1 : Int32))).1 p0 3) + (1 : Int32)) / (4 : Int32) * (4 : Int32))).1 p0 3)) fun q15 => if clsAt Λ q15 = some 4 then (some (pI (pI (pI (pI d11 p0 4 ((d11.1 p0 4) - (1 : Int32))) p0 3 ((((pI d11 p0 4 ((d11.1 p0 4) - (1 : Int32))).1 p0 3) + (1 : Int32)) - (((pI d11 p0 4 ((d11.1 p0 4) - (1 : Int32))).1 p0 3) + (1 : Int32)) / (4 : Int32) * (4 : Int32))) p0 4 ((pI (pI d11 p0 4 ((d11.1 p0 4) - (1 : Int32))) p0 3 ((((pI d11 p0 4 ((d11.1 p0 4) - (1 : Int32))).1 p0 3) + (1 : Int32)) - (((pI d11 p0 4 ((d11.1 p0 4) - (1 : Int32))).1 p0 3) + (1 : Int32)) / (4 : Int32) * (4 : Int32))).1 q15 0)) p0 5 (((pI (pI (pI d11 p0 4 ((d11.1 p0 4) - (1 : Int32))) p0 3 ((((pI d11 p0 4 ((d11.1 p0 4) - (1 : Int32))).1 p0 3) + (1 : Int32)) - (((pI d11 p0 4 ((d11.1 p0 4) - (1 : Int32))).1 p0 3) + (1 : Int32)) / (4 : Int32) * (4 : Int32))) p0 4 ((pI (pI d11 p0 4 ((d11.1 p0 4) - (1 : Int32))) p0 3 ((((pI d11 p0 4 ((d11.1 p0 4) - (1 : Int32))).1 p0 3) + (1 : Int32)) - (((pI d11 p0 4 ((d11.1 p0 4) - (1 : Int32))).1 p0 3) + (1 : Int32)) / (4 : Int32) * (4 : Int32))).1 q15 0)).1 p0 5) + (1 : Int32)))) else none) else (some (pI (pI d11 p0 4 ((d11.1 p0 4) - (1 : Int32))) p0 5 (((pI d11 p0 4 ((d11.1 p0 4) - (1 : Int32))).1 p0 5) + (1 : Int32))))) else none) FU (0 : Int32) d
set_option maxHeartbeats 4000000 in
set_option maxRecDepth 100000 in
theorem w_X7_passOne_L2 {p : Program} {l : Launch} {e : Env} {s : State} {m : MethodId} {args : Array Value} {below : List Frame} {meth : Method} {c : Code} {Γ : Cx} {Λ : List Ly} {z : Dt} (C0 : Ct Γ p s m args c cX7_passOne 2 "SeasonBound$World") (hr : meth.sig.returnType = none) (hlocks : meth.locks = false) (k50 : Int32 → Dt → Option Dt) (p0 : Nat)
    (hk50 : ∀ (v1 : Int32) (d : Dt), (k50 v1 d = some z) → ∀ (H : Heap) (locs : List Loc) (ls : Array Slot), Hs Γ Λ d s H locs → lv_has ls 2 [(0, .ref (ad Γ.2.2.1 p0)), (1, .int v1)] → W p l e { frames := 3, cells := 0, slots := 0, locals := 64 } s m args below meth c H locs 0 0 (MQ below (QN Γ Λ z none) args s 0 0 (AP Γ)) (F0 m 50 ls [])) :
    ∀ (n : Nat) (v1 : Int32) (d : Dt), f_X7_passOne_L2 Λ p0 k50 n v1 d = some z → ∀ (H : Heap) (locs : List Loc) (ls : Array Slot), Hs Γ Λ d s H locs → lv_has ls 2 [(0, .ref (ad Γ.2.2.1 p0)), (1, .int v1)] → W p l e { frames := 3, cells := 0, slots := 0, locals := 64 } s m args below meth c H locs 0 0 (MQ below (QN Γ Λ z none) args s 0 0 (AP Γ)) (F0 m 2 ls []) := by
  obtain ⟨hx, hb, hml, hown, hts, hK⟩ := id C0
  intro n
  induction n with
  | zero =>
    intro v1 d hf
    cases hf
  | succ n ih =>
    intro v1 d hf H locs ls hH hl
    unfold f_X7_passOne_L2 at hf
    refine lv_iload_n hx hb dX7_passOne_2 rfl (lv_at hl 1 rfl) ?_
    refine lv_aload_n hx hb dX7_passOne_3 rfl (lv_at hl 0 rfl) ?_
    obtain ⟨g1, hf⟩ := gd hf
    refine r_geti C0 hH fl_X7_39 g1 rfl dX7_passOne_4 ?_
    refine lv_icmp_ge (tgt := 50) hx hb dX7_passOne_7 (by decide) (fun c2 => ?_) (fun c2 => ?_)
    · replace hf := it hf c2
      exact hk50 v1 d hf _ _ _ hH (lv_sub hl [0, 1] rfl)
    · replace hf := ie hf c2
      refine lv_aload_n hx hb dX7_passOne_10 rfl (lv_at hl 0 rfl) ?_
      obtain ⟨q3, g3, hf⟩ := ob hf
      refine r_getr C0 hH fl_X7_19 g3 dX7_passOne_11 ?_
      refine lv_iload_n hx hb dX7_passOne_14 rfl (lv_at hl 1 rfl) ?_
      obtain ⟨q4, g4, hf⟩ := ob hf
      refine r_aald (C := "SeasonBound$Child") C0 hH g4 (by decide) rfl dX7_passOne_15 ?_
      refine lv_aload_n hx hb dX7_passOne_16 rfl (lv_at hl 0 rfl) ?_
      refine r_geti C0 hH fl_X7_49 g1 rfl dX7_passOne_17 ?_
      obtain ⟨g5, hf⟩ := gd hf
      obtain ⟨z6, h6, hf⟩ := ob hf
      refine r_callVi (rest := []) C0 hH (c_X1_livesIn Γ l Λ d q4 (d.1 p0 3) z6 h6) cv_X7_104 g5 (by decide) rfl hl.1 rfl (Nat.le_of_ble_eq_true rfl) dX7_passOne_20 (by decide) (fun H locs hH => ?_)
      refine lv_if_eq (tgt := 44) hx hb dX7_passOne_23 (by decide) (fun c7 => ?_) (fun c7 => ?_)
      · replace hf := it hf c7
        refine lv_iinc (v := (v1 + (1 : Int32))) (lv' := [(1, .int (v1 + (1 : Int32))), (0, .ref (ad Γ.2.2.1 p0))]) hx hb dX7_passOne_44 hl (k := 1) rfl (congrArg (fun w => v1 + w) (by decide)) (by decide) rfl (fun ls hl => ?_)
        refine lv_goto (tgt := 2) hx hb dX7_passOne_47 (by decide) ?_
        exact ih (v1 + (1 : Int32)) d hf _ _ _ hH (lv_sub hl [1, 0] rfl)
      · replace hf := ie hf c7
        refine lv_aload_n hx hb dX7_passOne_26 rfl (lv_at hl 0 rfl) ?_
        refine r_getr C0 hH fl_X7_19 g3 dX7_passOne_27 ?_
        refine lv_iload_n hx hb dX7_passOne_30 rfl (lv_at hl 1 rfl) ?_
        refine r_aald (C := "SeasonBound$Child") C0 hH g4 (by decide) rfl dX7_passOne_31 ?_
        refine lv_aload_n hx hb dX7_passOne_32 rfl (lv_at hl 0 rfl) ?_
        obtain ⟨q8, g8, hf⟩ := ob hf
        refine r_getr C0 hH fl_X7_11 g8 dX7_passOne_33 ?_
        refine lv_aload_n hx hb dX7_passOne_36 rfl (lv_at hl 0 rfl) ?_
        refine r_geti C0 hH fl_X7_49 g1 rfl dX7_passOne_37 ?_
        obtain ⟨q9, g9, hf⟩ := ob hf
        refine r_aald (C := "SeasonBound$Season") C0 hH g9 (by decide) rfl dX7_passOne_40 ?_
        obtain ⟨z10, h10, hf⟩ := ob hf
        refine r_callVv (rest := []) C0 hH (c_X1_liveWeekOf Γ l Λ d q4 q9 z10 h10) cv_X7_107 g5 (by decide) rfl hl.1 rfl (Nat.le_of_ble_eq_true rfl) dX7_passOne_41 (by decide) (fun H locs hH => ?_)
        refine lv_iinc (v := (v1 + (1 : Int32))) (lv' := [(1, .int (v1 + (1 : Int32))), (0, .ref (ad Γ.2.2.1 p0))]) hx hb dX7_passOne_44 hl (k := 1) rfl (congrArg (fun w => v1 + w) (by decide)) (by decide) rfl (fun ls hl => ?_)
        refine lv_goto (tgt := 2) hx hb dX7_passOne_47 (by decide) ?_
        exact ih (v1 + (1 : Int32)) z10 hf _ _ _ hH (lv_sub hl [1, 0] rfl)
set_option maxHeartbeats 4000000 in
set_option maxRecDepth 100000 in
theorem c_X7_passOne (Γ : Cx) (l : Launch) (Λ : List Ly) (d : Dt) (p0 : Nat) (z : Dt) (hf : f_X7_passOne Λ d p0 = some z) : Cn Γ l yX7_passOne cX7_passOne 2 none 3 64 [.ref (ad Γ.2.2.1 p0)] Λ d none z := by
  refine Cn.of (own := "SeasonBound$World") (by decide +kernel) rfl (Nat.le_of_ble_eq_true rfl) ?_
  intro p e s m below meth c C0 hr hlocks hH ls hl
  have hl : lv_has ls 2 [(0, .ref (ad Γ.2.2.1 p0))] := hl
  obtain ⟨hx, hb, hml, hown, hts, hK⟩ := id C0
  unfold f_X7_passOne at hf
  refine lv_iconst (v := (0 : Int32)) hx hb dX7_passOne_0 (by decide) ?_
  refine lv_istore_n (lv' := [(1, .int (0 : Int32)), (0, .ref (ad Γ.2.2.1 p0))]) hx hb dX7_passOne_1 rfl hl (by decide) rfl (fun ls hl => ?_)
  refine w_X7_passOne_L2 C0 hr hlocks _ p0 ?k50 FU (0 : Int32) d hf _ _ _ hH (lv_sub hl [1, 0] rfl)
  case k50 =>
    intro x11_1 d11 hf H locs ls hH hl
    refine lv_aload_n hx hb dX7_passOne_50 rfl (lv_at hl 0 rfl) ?_
    refine lv_dup hx hb dX7_passOne_51 rfl ?_
    obtain ⟨g12, hf⟩ := gd hf
    refine r_geti C0 hH fl_X7_55 g12 rfl dX7_passOne_52 ?_
    refine lv_iconst (v := (1 : Int32)) hx hb dX7_passOne_55 (by decide) ?_
    refine lv_isub hx hb dX7_passOne_56 ?_
    refine r_puti C0 hH fw_X7_55 g12 rfl dX7_passOne_57 (fun H locs hH => ?_)
    refine lv_aload_n hx hb dX7_passOne_60 rfl (lv_at hl 0 rfl) ?_
    refine r_geti C0 hH fl_X7_55 g12 rfl dX7_passOne_61 ?_
    refine lv_if_ne (tgt := 95) hx hb dX7_passOne_64 (by decide) (fun c13 => ?_) (fun c13 => ?_)
    · replace hf := ie hf c13
      refine lv_aload_n hx hb dX7_passOne_95 rfl (lv_at hl 0 rfl) ?_
      refine lv_dup hx hb dX7_passOne_96 rfl ?_
      refine r_geti C0 hH fl_X7_58 g12 rfl dX7_passOne_97 ?_
      refine lv_iconst (v := (1 : Int32)) hx hb dX7_passOne_100 (by decide) ?_
      refine lv_iadd hx hb dX7_passOne_101 ?_
      refine r_puti C0 hH fw_X7_58 g12 rfl dX7_passOne_102 (fun H locs hH => ?_)
      obtain rfl := Option.some.inj hf
      exact r_vret C0 hr hlocks hH dX7_passOne_105
    · replace hf := it hf c13
      refine lv_aload_n hx hb dX7_passOne_67 rfl (lv_at hl 0 rfl) ?_
      refine lv_aload_n hx hb dX7_passOne_68 rfl (lv_at hl 0 rfl) ?_
      refine r_geti C0 hH fl_X7_49 g12 rfl dX7_passOne_69 ?_
      refine lv_iconst (v := (1 : Int32)) hx hb dX7_passOne_72 (by decide) ?_
      refine lv_iadd hx hb dX7_passOne_73 ?_
      refine lv_iconst (v := (4 : Int32)) hx hb dX7_passOne_74 (by decide) ?_
      refine lv_irem hx hb dX7_passOne_75 (by decide) ?_
      refine r_puti C0 hH fw_X7_49 g12 rfl dX7_passOne_76 (fun H locs hH => ?_)
      refine lv_aload_n hx hb dX7_passOne_79 rfl (lv_at hl 0 rfl) ?_
      refine lv_aload_n hx hb dX7_passOne_80 rfl (lv_at hl 0 rfl) ?_
      obtain ⟨q14, g14, hf⟩ := ob hf
      refine r_getr C0 hH fl_X7_11 g14 dX7_passOne_81 ?_
      refine lv_aload_n hx hb dX7_passOne_84 rfl (lv_at hl 0 rfl) ?_
      refine r_geti C0 hH fl_X7_49 g12 rfl dX7_passOne_85 ?_
      obtain ⟨q15, g15, hf⟩ := ob hf
      refine r_aald (C := "SeasonBound$Season") C0 hH g15 (by decide) rfl dX7_passOne_88 ?_
      obtain ⟨g16, hf⟩ := gd hf
      refine r_geti C0 hH fl_X7_52 g16 rfl dX7_passOne_89 ?_
      refine r_puti C0 hH fw_X7_55 g12 rfl dX7_passOne_92 (fun H locs hH => ?_)
      refine lv_aload_n hx hb dX7_passOne_95 rfl (lv_at hl 0 rfl) ?_
      refine lv_dup hx hb dX7_passOne_96 rfl ?_
      refine r_geti C0 hH fl_X7_58 g12 rfl dX7_passOne_97 ?_
      refine lv_iconst (v := (1 : Int32)) hx hb dX7_passOne_100 (by decide) ?_
      refine lv_iadd hx hb dX7_passOne_101 ?_
      refine r_puti C0 hH fw_X7_58 g12 rfl dX7_passOne_102 (fun H locs hH => ?_)
      obtain rfl := Option.some.inj hf
      exact r_vret C0 hr hlocks hH dX7_passOne_105
theorem dX7_pass_0 : decode cX7_pass 0 = .ok (.iconst 0, 1) := by decide +kernel
theorem dX7_pass_1 : decode cX7_pass 1 = .ok (.istore_n 2, 1) := by decide +kernel
theorem dX7_pass_2 : decode cX7_pass 2 = .ok (.iload_n 2, 1) := by decide +kernel
theorem dX7_pass_3 : decode cX7_pass 3 = .ok (.iload_n 1, 1) := by decide +kernel
theorem dX7_pass_4 : decode cX7_pass 4 = .ok (.if_icmp .ge 13, 3) := by decide +kernel
theorem dX7_pass_7 : decode cX7_pass 7 = .ok (.aload_n 0, 1) := by decide +kernel
theorem dX7_pass_8 : decode cX7_pass 8 = .ok (.invokevirtual 101, 3) := by decide +kernel
theorem dX7_pass_11 : decode cX7_pass 11 = .ok (.iinc 2 1, 3) := by decide +kernel
theorem dX7_pass_14 : decode cX7_pass 14 = .ok (.goto (-12), 3) := by decide +kernel
theorem dX7_pass_17 : decode cX7_pass 17 = .ok (.return_, 1) := by decide +kernel
def f_X7_pass_L2 (Λ : List Ly) (p0 : Nat) (v1 : Int32) : Nat → Int32 → Dt → Option Dt
  | 0, _, _ => none
  | n + 1, v2, d => if v1 ≤ v2 then (some d) else (if clsAt Λ p0 = some 7 then (Option.bind (f_X7_passOne Λ d p0) fun z3 => f_X7_pass_L2 Λ p0 v1 n (v2 + (1 : Int32)) z3) else none)
def f_X7_pass (Λ : List Ly) (d : Dt) (p0 : Nat) (v1 : Int32) : Option Dt := f_X7_pass_L2 Λ p0 v1 FU (0 : Int32) d
set_option maxHeartbeats 4000000 in
set_option maxRecDepth 100000 in
theorem w_X7_pass_L2 {p : Program} {l : Launch} {e : Env} {s : State} {m : MethodId} {args : Array Value} {below : List Frame} {meth : Method} {c : Code} {Γ : Cx} {Λ : List Ly} {z : Dt} (C0 : Ct Γ p s m args c cX7_pass 3 "SeasonBound$World") (hr : meth.sig.returnType = none) (hlocks : meth.locks = false) (p0 : Nat) (v1 : Int32) :
    ∀ (n : Nat) (v2 : Int32) (d : Dt), f_X7_pass_L2 Λ p0 v1 n v2 d = some z → ∀ (H : Heap) (locs : List Loc) (ls : Array Slot), Hs Γ Λ d s H locs → lv_has ls 3 [(0, .ref (ad Γ.2.2.1 p0)), (1, .int v1), (2, .int v2)] → W p l e { frames := 4, cells := 0, slots := 0, locals := 85 } s m args below meth c H locs 0 0 (MQ below (QN Γ Λ z none) args s 0 0 (AP Γ)) (F0 m 2 ls []) := by
  obtain ⟨hx, hb, hml, hown, hts, hK⟩ := id C0
  intro n
  induction n with
  | zero =>
    intro v2 d hf
    cases hf
  | succ n ih =>
    intro v2 d hf H locs ls hH hl
    unfold f_X7_pass_L2 at hf
    refine lv_iload_n hx hb dX7_pass_2 rfl (lv_at hl 2 rfl) ?_
    refine lv_iload_n hx hb dX7_pass_3 rfl (lv_at hl 1 rfl) ?_
    refine lv_icmp_ge (tgt := 17) hx hb dX7_pass_4 (by decide) (fun c1 => ?_) (fun c1 => ?_)
    · replace hf := it hf c1
      obtain rfl := Option.some.inj hf
      exact r_vret C0 hr hlocks hH dX7_pass_17
    · replace hf := ie hf c1
      refine lv_aload_n hx hb dX7_pass_7 rfl (lv_at hl 0 rfl) ?_
      obtain ⟨g2, hf⟩ := gd hf
      obtain ⟨z3, h3, hf⟩ := ob hf
      refine r_callVv (rest := []) C0 hH (c_X7_passOne Γ l Λ d p0 z3 h3) cv_X7_101 g2 (by decide) rfl hl.1 rfl (Nat.le_of_ble_eq_true rfl) dX7_pass_8 (by decide) (fun H locs hH => ?_)
      refine lv_iinc (v := (v2 + (1 : Int32))) (lv' := [(2, .int (v2 + (1 : Int32))), (0, .ref (ad Γ.2.2.1 p0)), (1, .int v1)]) hx hb dX7_pass_11 hl (k := 2) rfl (congrArg (fun w => v2 + w) (by decide)) (by decide) rfl (fun ls hl => ?_)
      refine lv_goto (tgt := 2) hx hb dX7_pass_14 (by decide) ?_
      exact ih (v2 + (1 : Int32)) z3 hf _ _ _ hH (lv_sub hl [1, 2, 0] rfl)
set_option maxHeartbeats 4000000 in
set_option maxRecDepth 100000 in
theorem c_X7_pass (Γ : Cx) (l : Launch) (Λ : List Ly) (d : Dt) (p0 : Nat) (v1 : Int32) (z : Dt) (hf : f_X7_pass Λ d p0 v1 = some z) : Cn Γ l yX7_pass cX7_pass 3 none 4 85 [.ref (ad Γ.2.2.1 p0), .int v1] Λ d none z := by
  refine Cn.of (own := "SeasonBound$World") (by decide +kernel) rfl (Nat.le_of_ble_eq_true rfl) ?_
  intro p e s m below meth c C0 hr hlocks hH ls hl
  have hl : lv_has ls 3 [(0, .ref (ad Γ.2.2.1 p0)), (1, .int v1)] := hl
  obtain ⟨hx, hb, hml, hown, hts, hK⟩ := id C0
  unfold f_X7_pass at hf
  refine lv_iconst (v := (0 : Int32)) hx hb dX7_pass_0 (by decide) ?_
  refine lv_istore_n (lv' := [(2, .int (0 : Int32)), (0, .ref (ad Γ.2.2.1 p0)), (1, .int v1)]) hx hb dX7_pass_1 rfl hl (by decide) rfl (fun ls hl => ?_)
  refine w_X7_pass_L2 C0 hr hlocks p0 v1 FU (0 : Int32) d hf _ _ _ hH (lv_sub hl [1, 2, 0] rfl)
theorem dX7_note_0 : decode cX7_note 0 = .ok (.aload_n 0, 1) := by decide +kernel
theorem dX7_note_1 : decode cX7_note 1 = .ok (.getfield 43, 3) := by decide +kernel
theorem dX7_note_4 : decode cX7_note 4 = .ok (.bipush 6, 2) := by decide +kernel
theorem dX7_note_6 : decode cX7_note 6 = .ok (.if_icmp .ge 43, 3) := by decide +kernel
theorem dX7_note_9 : decode cX7_note 9 = .ok (.aload_n 0, 1) := by decide +kernel
theorem dX7_note_10 : decode cX7_note 10 = .ok (.getfield 23, 3) := by decide +kernel
theorem dX7_note_13 : decode cX7_note 13 = .ok (.aload_n 0, 1) := by decide +kernel
theorem dX7_note_14 : decode cX7_note 14 = .ok (.getfield 43, 3) := by decide +kernel
theorem dX7_note_17 : decode cX7_note 17 = .ok (.iload_n 1, 1) := by decide +kernel
theorem dX7_note_18 : decode cX7_note 18 = .ok (.iastore, 1) := by decide +kernel
theorem dX7_note_19 : decode cX7_note 19 = .ok (.aload_n 0, 1) := by decide +kernel
theorem dX7_note_20 : decode cX7_note 20 = .ok (.getfield 27, 3) := by decide +kernel
theorem dX7_note_23 : decode cX7_note 23 = .ok (.aload_n 0, 1) := by decide +kernel
theorem dX7_note_24 : decode cX7_note 24 = .ok (.getfield 43, 3) := by decide +kernel
theorem dX7_note_27 : decode cX7_note 27 = .ok (.iload_n 2, 1) := by decide +kernel
theorem dX7_note_28 : decode cX7_note 28 = .ok (.iastore, 1) := by decide +kernel
theorem dX7_note_29 : decode cX7_note 29 = .ok (.aload_n 0, 1) := by decide +kernel
theorem dX7_note_30 : decode cX7_note 30 = .ok (.getfield 30, 3) := by decide +kernel
theorem dX7_note_33 : decode cX7_note 33 = .ok (.aload_n 0, 1) := by decide +kernel
theorem dX7_note_34 : decode cX7_note 34 = .ok (.getfield 43, 3) := by decide +kernel
theorem dX7_note_37 : decode cX7_note 37 = .ok (.iload_n 3, 1) := by decide +kernel
theorem dX7_note_38 : decode cX7_note 38 = .ok (.iastore, 1) := by decide +kernel
theorem dX7_note_39 : decode cX7_note 39 = .ok (.aload_n 0, 1) := by decide +kernel
theorem dX7_note_40 : decode cX7_note 40 = .ok (.dup, 1) := by decide +kernel
theorem dX7_note_41 : decode cX7_note 41 = .ok (.getfield 43, 3) := by decide +kernel
theorem dX7_note_44 : decode cX7_note 44 = .ok (.iconst 1, 1) := by decide +kernel
theorem dX7_note_45 : decode cX7_note 45 = .ok (.iadd, 1) := by decide +kernel
theorem dX7_note_46 : decode cX7_note 46 = .ok (.putfield 43, 3) := by decide +kernel
theorem dX7_note_49 : decode cX7_note 49 = .ok (.return_, 1) := by decide +kernel
def f_X7_note (Λ : List Ly) (d : Dt) (p0 : Nat) (v1 : Int32) (v2 : Int32) (v3 : Int32) : Option Dt := if clsAt Λ p0 = some 7 then (if (6 : Int32) ≤ (d.1 p0 9) then (some d) else (Option.bind (rf Λ p0 7 6) fun q3 => if okA Λ q3 1 (d.1 p0 9) = true then (Option.bind (rf Λ p0 7 7) fun q5 => if okA Λ q5 1 ((pI d q3 ((d.1 p0 9)).toNatClampNeg v1).1 p0 9) = true then (Option.bind (rf Λ p0 7 8) fun q7 => if okA Λ q7 1 ((pI (pI d q3 ((d.1 p0 9)).toNatClampNeg v1) q5 (((pI d q3 ((d.1 p0 9)).toNatClampNeg v1).1 p0 9)).toNatClampNeg v2).1 p0 9) = true then (some (pI (pI (pI (pI d q3 ((d.1 p0 9)).toNatClampNeg v1) q5 (((pI d q3 ((d.1 p0 9)).toNatClampNeg v1).1 p0 9)).toNatClampNeg v2) q7 (((pI (pI d q3 ((d.1 p0 9)).toNatClampNeg v1) q5 (((pI d q3 ((d.1 p0 9)).toNatClampNeg v1).1 p0 9)).toNatClampNeg v2).1 p0 9)).toNatClampNeg v3) p0 9 (((pI (pI (pI d q3 ((d.1 p0 9)).toNatClampNeg v1) q5 (((pI d q3 ((d.1 p0 9)).toNatClampNeg v1).1 p0 9)).toNatClampNeg v2) q7 (((pI (pI d q3 ((d.1 p0 9)).toNatClampNeg v1) q5 (((pI d q3 ((d.1 p0 9)).toNatClampNeg v1).1 p0 9)).toNatClampNeg v2).1 p0 9)).toNatClampNeg v3).1 p0 9) + (1 : Int32)))) else none) else none) else none)) else none
set_option maxHeartbeats 4000000 in
set_option maxRecDepth 100000 in
theorem c_X7_note (Γ : Cx) (l : Launch) (Λ : List Ly) (d : Dt) (p0 : Nat) (v1 : Int32) (v2 : Int32) (v3 : Int32) (z : Dt) (hf : f_X7_note Λ d p0 v1 v2 v3 = some z) : Cn Γ l yX7_note cX7_note 4 none 0 0 [.ref (ad Γ.2.2.1 p0), .int v1, .int v2, .int v3] Λ d none z := by
  refine Cn.of (own := "SeasonBound$World") (by decide +kernel) rfl (Nat.le_of_ble_eq_true rfl) ?_
  intro p e s m below meth c C0 hr hlocks hH ls hl
  have hl : lv_has ls 4 [(0, .ref (ad Γ.2.2.1 p0)), (1, .int v1), (2, .int v2), (3, .int v3)] := hl
  obtain ⟨hx, hb, hml, hown, hts, hK⟩ := id C0
  unfold f_X7_note at hf
  refine lv_aload_n hx hb dX7_note_0 rfl (lv_at hl 0 rfl) ?_
  obtain ⟨g1, hf⟩ := gd hf
  refine r_geti C0 hH fl_X7_43 g1 rfl dX7_note_1 ?_
  refine lv_bipush (v := (6 : Int32)) hx hb dX7_note_4 (by decide) ?_
  refine lv_icmp_ge (tgt := 49) hx hb dX7_note_6 (by decide) (fun c2 => ?_) (fun c2 => ?_)
  · replace hf := it hf c2
    obtain rfl := Option.some.inj hf
    exact r_vret C0 hr hlocks hH dX7_note_49
  · replace hf := ie hf c2
    refine lv_aload_n hx hb dX7_note_9 rfl (lv_at hl 0 rfl) ?_
    obtain ⟨q3, g3, hf⟩ := ob hf
    refine r_getr C0 hH fl_X7_23 g3 dX7_note_10 ?_
    refine lv_aload_n hx hb dX7_note_13 rfl (lv_at hl 0 rfl) ?_
    refine r_geti C0 hH fl_X7_43 g1 rfl dX7_note_14 ?_
    refine lv_iload_n hx hb dX7_note_17 rfl (lv_at hl 1 rfl) ?_
    obtain ⟨g4, hf⟩ := gd hf
    refine r_iast C0 hH g4 dX7_note_18 (fun H locs hH => ?_)
    refine lv_aload_n hx hb dX7_note_19 rfl (lv_at hl 0 rfl) ?_
    obtain ⟨q5, g5, hf⟩ := ob hf
    refine r_getr C0 hH fl_X7_27 g5 dX7_note_20 ?_
    refine lv_aload_n hx hb dX7_note_23 rfl (lv_at hl 0 rfl) ?_
    refine r_geti C0 hH fl_X7_43 g1 rfl dX7_note_24 ?_
    refine lv_iload_n hx hb dX7_note_27 rfl (lv_at hl 2 rfl) ?_
    obtain ⟨g6, hf⟩ := gd hf
    refine r_iast C0 hH g6 dX7_note_28 (fun H locs hH => ?_)
    refine lv_aload_n hx hb dX7_note_29 rfl (lv_at hl 0 rfl) ?_
    obtain ⟨q7, g7, hf⟩ := ob hf
    refine r_getr C0 hH fl_X7_30 g7 dX7_note_30 ?_
    refine lv_aload_n hx hb dX7_note_33 rfl (lv_at hl 0 rfl) ?_
    refine r_geti C0 hH fl_X7_43 g1 rfl dX7_note_34 ?_
    refine lv_iload_n hx hb dX7_note_37 rfl (lv_at hl 3 rfl) ?_
    obtain ⟨g8, hf⟩ := gd hf
    refine r_iast C0 hH g8 dX7_note_38 (fun H locs hH => ?_)
    refine lv_aload_n hx hb dX7_note_39 rfl (lv_at hl 0 rfl) ?_
    refine lv_dup hx hb dX7_note_40 rfl ?_
    refine r_geti C0 hH fl_X7_43 g1 rfl dX7_note_41 ?_
    refine lv_iconst (v := (1 : Int32)) hx hb dX7_note_44 (by decide) ?_
    refine lv_iadd hx hb dX7_note_45 ?_
    refine r_puti C0 hH fw_X7_43 g1 rfl dX7_note_46 (fun H locs hH => ?_)
    obtain rfl := Option.some.inj hf
    exact r_vret C0 hr hlocks hH dX7_note_49
theorem dX7_lastSeen_0 : decode cX7_lastSeen 0 = .ok (.iconst (-1), 1) := by decide +kernel
theorem dX7_lastSeen_1 : decode cX7_lastSeen 1 = .ok (.istore_n 1, 1) := by decide +kernel
theorem dX7_lastSeen_2 : decode cX7_lastSeen 2 = .ok (.iconst 0, 1) := by decide +kernel
theorem dX7_lastSeen_3 : decode cX7_lastSeen 3 = .ok (.istore_n 2, 1) := by decide +kernel
theorem dX7_lastSeen_4 : decode cX7_lastSeen 4 = .ok (.iload_n 2, 1) := by decide +kernel
theorem dX7_lastSeen_5 : decode cX7_lastSeen 5 = .ok (.aload_n 0, 1) := by decide +kernel
theorem dX7_lastSeen_6 : decode cX7_lastSeen 6 = .ok (.getfield 43, 3) := by decide +kernel
theorem dX7_lastSeen_9 : decode cX7_lastSeen 9 = .ok (.if_icmp .ge 20, 3) := by decide +kernel
theorem dX7_lastSeen_12 : decode cX7_lastSeen 12 = .ok (.iload_n 1, 1) := by decide +kernel
theorem dX7_lastSeen_13 : decode cX7_lastSeen 13 = .ok (.aload_n 0, 1) := by decide +kernel
theorem dX7_lastSeen_14 : decode cX7_lastSeen 14 = .ok (.getfield 23, 3) := by decide +kernel
theorem dX7_lastSeen_17 : decode cX7_lastSeen 17 = .ok (.iload_n 2, 1) := by decide +kernel
theorem dX7_lastSeen_18 : decode cX7_lastSeen 18 = .ok (.iaload, 1) := by decide +kernel
theorem dX7_lastSeen_19 : decode cX7_lastSeen 19 = .ok (.invokestatic 117, 3) := by decide +kernel
theorem dX7_lastSeen_22 : decode cX7_lastSeen 22 = .ok (.istore_n 1, 1) := by decide +kernel
theorem dX7_lastSeen_23 : decode cX7_lastSeen 23 = .ok (.iinc 2 1, 3) := by decide +kernel
theorem dX7_lastSeen_26 : decode cX7_lastSeen 26 = .ok (.goto (-22), 3) := by decide +kernel
theorem dX7_lastSeen_29 : decode cX7_lastSeen 29 = .ok (.iload_n 1, 1) := by decide +kernel
theorem dX7_lastSeen_30 : decode cX7_lastSeen 30 = .ok (.ireturn, 1) := by decide +kernel
def f_X7_lastSeen_L4 (Λ : List Ly) (d : Dt) (p0 : Nat) : Nat → Int32 → Int32 → Option Int32
  | 0, _, _ => none
  | n + 1, v1, v2 => if clsAt Λ p0 = some 7 then (if (d.1 p0 9) ≤ v2 then (some v1) else (Option.bind (rf Λ p0 7 6) fun q3 => if okA Λ q3 1 v2 = true then (f_X7_lastSeen_L4 Λ d p0 n (jmax v1 (d.1 q3 (v2).toNatClampNeg)) (v2 + (1 : Int32))) else none)) else none
def f_X7_lastSeen (Λ : List Ly) (d : Dt) (p0 : Nat) : Option Int32 := f_X7_lastSeen_L4 Λ d p0 FU (-1 : Int32) (0 : Int32)
set_option maxHeartbeats 4000000 in
set_option maxRecDepth 100000 in
theorem w_X7_lastSeen_L4 {p : Program} {l : Launch} {e : Env} {s : State} {m : MethodId} {args : Array Value} {below : List Frame} {meth : Method} {c : Code} {Γ : Cx} {Λ : List Ly} {z : Int32} {d : Dt} (C0 : Ct Γ p s m args c cX7_lastSeen 3 "SeasonBound$World") (hr : meth.sig.returnType = (some FieldType.int)) (hlocks : meth.locks = false) (p0 : Nat) :
    ∀ (n : Nat) (v1 : Int32) (v2 : Int32), f_X7_lastSeen_L4 Λ d p0 n v1 v2 = some z → ∀ (H : Heap) (locs : List Loc) (ls : Array Slot), Hs Γ Λ d s H locs → lv_has ls 3 [(0, .ref (ad Γ.2.2.1 p0)), (1, .int v1), (2, .int v2)] → W p l e { frames := 1, cells := 0, slots := 0, locals := 21 } s m args below meth c H locs 0 0 (MQ below (QN Γ Λ d (some (.int z))) args s 0 0 (AP Γ)) (F0 m 4 ls []) := by
  obtain ⟨hx, hb, hml, hown, hts, hK⟩ := id C0
  intro n
  induction n with
  | zero =>
    intro v1 v2 hf
    cases hf
  | succ n ih =>
    intro v1 v2 hf H locs ls hH hl
    unfold f_X7_lastSeen_L4 at hf
    refine lv_iload_n hx hb dX7_lastSeen_4 rfl (lv_at hl 2 rfl) ?_
    refine lv_aload_n hx hb dX7_lastSeen_5 rfl (lv_at hl 0 rfl) ?_
    obtain ⟨g1, hf⟩ := gd hf
    refine r_geti C0 hH fl_X7_43 g1 rfl dX7_lastSeen_6 ?_
    refine lv_icmp_ge (tgt := 29) hx hb dX7_lastSeen_9 (by decide) (fun c2 => ?_) (fun c2 => ?_)
    · replace hf := it hf c2
      refine lv_iload_n hx hb dX7_lastSeen_29 rfl (lv_at hl 1 rfl) ?_
      obtain rfl := Option.some.inj hf
      exact r_iret (d' := d) C0 hr hlocks hH rfl dX7_lastSeen_30
    · replace hf := ie hf c2
      refine lv_iload_n hx hb dX7_lastSeen_12 rfl (lv_at hl 1 rfl) ?_
      refine lv_aload_n hx hb dX7_lastSeen_13 rfl (lv_at hl 0 rfl) ?_
      obtain ⟨q3, g3, hf⟩ := ob hf
      refine r_getr C0 hH fl_X7_23 g3 dX7_lastSeen_14 ?_
      refine lv_iload_n hx hb dX7_lastSeen_17 rfl (lv_at hl 2 rfl) ?_
      obtain ⟨g4, hf⟩ := gd hf
      refine r_iald C0 hH g4 dX7_lastSeen_18 ?_
      refine r_jmax C0 hl.1 ml_X7_117 (by decide) (Nat.le_of_ble_eq_true rfl) (by decide) dX7_lastSeen_19 ?_
      refine lv_istore_n (lv' := [(1, .int (jmax v1 (d.1 q3 (v2).toNatClampNeg))), (0, .ref (ad Γ.2.2.1 p0)), (2, .int v2)]) hx hb dX7_lastSeen_22 rfl hl (by decide) rfl (fun ls hl => ?_)
      refine lv_iinc (v := (v2 + (1 : Int32))) (lv' := [(2, .int (v2 + (1 : Int32))), (1, .int (jmax v1 (d.1 q3 (v2).toNatClampNeg))), (0, .ref (ad Γ.2.2.1 p0))]) hx hb dX7_lastSeen_23 hl (k := 2) rfl (congrArg (fun w => v2 + w) (by decide)) (by decide) rfl (fun ls hl => ?_)
      refine lv_goto (tgt := 4) hx hb dX7_lastSeen_26 (by decide) ?_
      exact ih (jmax v1 (d.1 q3 (v2).toNatClampNeg)) (v2 + (1 : Int32)) hf _ _ _ hH (lv_sub hl [2, 1, 0] rfl)
set_option maxHeartbeats 4000000 in
set_option maxRecDepth 100000 in
theorem c_X7_lastSeen (Γ : Cx) (l : Launch) (Λ : List Ly) (d : Dt) (p0 : Nat) (z : Int32) (hf : f_X7_lastSeen Λ d p0 = some z) : Cn Γ l yX7_lastSeen cX7_lastSeen 3 (some FieldType.int) 1 21 [.ref (ad Γ.2.2.1 p0)] Λ d (some (.int z)) d := by
  refine Cn.of (own := "SeasonBound$World") (by decide +kernel) rfl (Nat.le_of_ble_eq_true rfl) ?_
  intro p e s m below meth c C0 hr hlocks hH ls hl
  have hl : lv_has ls 3 [(0, .ref (ad Γ.2.2.1 p0))] := hl
  obtain ⟨hx, hb, hml, hown, hts, hK⟩ := id C0
  unfold f_X7_lastSeen at hf
  refine lv_iconst (v := (-1 : Int32)) hx hb dX7_lastSeen_0 (by decide) ?_
  refine lv_istore_n (lv' := [(1, .int (-1 : Int32)), (0, .ref (ad Γ.2.2.1 p0))]) hx hb dX7_lastSeen_1 rfl hl (by decide) rfl (fun ls hl => ?_)
  refine lv_iconst (v := (0 : Int32)) hx hb dX7_lastSeen_2 (by decide) ?_
  refine lv_istore_n (lv' := [(2, .int (0 : Int32)), (1, .int (-1 : Int32)), (0, .ref (ad Γ.2.2.1 p0))]) hx hb dX7_lastSeen_3 rfl hl (by decide) rfl (fun ls hl => ?_)
  refine w_X7_lastSeen_L4 C0 hr hlocks p0 FU (-1 : Int32) (0 : Int32) hf _ _ _ hH (lv_sub hl [2, 1, 0] rfl)
theorem dX7_isAsSeen_0 : decode cX7_isAsSeen 0 = .ok (.iconst 0, 1) := by decide +kernel
theorem dX7_isAsSeen_1 : decode cX7_isAsSeen 1 = .ok (.istore_n 2, 1) := by decide +kernel
theorem dX7_isAsSeen_2 : decode cX7_isAsSeen 2 = .ok (.iload_n 2, 1) := by decide +kernel
theorem dX7_isAsSeen_3 : decode cX7_isAsSeen 3 = .ok (.aload_n 0, 1) := by decide +kernel
theorem dX7_isAsSeen_4 : decode cX7_isAsSeen 4 = .ok (.getfield 43, 3) := by decide +kernel
theorem dX7_isAsSeen_7 : decode cX7_isAsSeen 7 = .ok (.if_icmp .ge 57, 3) := by decide +kernel
theorem dX7_isAsSeen_10 : decode cX7_isAsSeen 10 = .ok (.aload_n 0, 1) := by decide +kernel
theorem dX7_isAsSeen_11 : decode cX7_isAsSeen 11 = .ok (.getfield 23, 3) := by decide +kernel
theorem dX7_isAsSeen_14 : decode cX7_isAsSeen 14 = .ok (.iload_n 2, 1) := by decide +kernel
theorem dX7_isAsSeen_15 : decode cX7_isAsSeen 15 = .ok (.iaload, 1) := by decide +kernel
theorem dX7_isAsSeen_16 : decode cX7_isAsSeen 16 = .ok (.iload_n 1, 1) := by decide +kernel
theorem dX7_isAsSeen_17 : decode cX7_isAsSeen 17 = .ok (.if_icmp .ne 41, 3) := by decide +kernel
theorem dX7_isAsSeen_20 : decode cX7_isAsSeen 20 = .ok (.aload_n 0, 1) := by decide +kernel
theorem dX7_isAsSeen_21 : decode cX7_isAsSeen 21 = .ok (.aload_n 0, 1) := by decide +kernel
theorem dX7_isAsSeen_22 : decode cX7_isAsSeen 22 = .ok (.getfield 27, 3) := by decide +kernel
theorem dX7_isAsSeen_25 : decode cX7_isAsSeen 25 = .ok (.iload_n 2, 1) := by decide +kernel
theorem dX7_isAsSeen_26 : decode cX7_isAsSeen 26 = .ok (.iaload, 1) := by decide +kernel
theorem dX7_isAsSeen_27 : decode cX7_isAsSeen 27 = .ok (.invokevirtual 75, 3) := by decide +kernel
theorem dX7_isAsSeen_30 : decode cX7_isAsSeen 30 = .ok (.ifCond .eq 28, 3) := by decide +kernel
theorem dX7_isAsSeen_33 : decode cX7_isAsSeen 33 = .ok (.aload_n 0, 1) := by decide +kernel
theorem dX7_isAsSeen_34 : decode cX7_isAsSeen 34 = .ok (.getfield 19, 3) := by decide +kernel
theorem dX7_isAsSeen_37 : decode cX7_isAsSeen 37 = .ok (.aload_n 0, 1) := by decide +kernel
theorem dX7_isAsSeen_38 : decode cX7_isAsSeen 38 = .ok (.getfield 27, 3) := by decide +kernel
theorem dX7_isAsSeen_41 : decode cX7_isAsSeen 41 = .ok (.iload_n 2, 1) := by decide +kernel
theorem dX7_isAsSeen_42 : decode cX7_isAsSeen 42 = .ok (.iaload, 1) := by decide +kernel
theorem dX7_isAsSeen_43 : decode cX7_isAsSeen 43 = .ok (.aaload, 1) := by decide +kernel
theorem dX7_isAsSeen_44 : decode cX7_isAsSeen 44 = .ok (.getfield 123, 3) := by decide +kernel
theorem dX7_isAsSeen_47 : decode cX7_isAsSeen 47 = .ok (.aload_n 0, 1) := by decide +kernel
theorem dX7_isAsSeen_48 : decode cX7_isAsSeen 48 = .ok (.getfield 30, 3) := by decide +kernel
theorem dX7_isAsSeen_51 : decode cX7_isAsSeen 51 = .ok (.iload_n 2, 1) := by decide +kernel
theorem dX7_isAsSeen_52 : decode cX7_isAsSeen 52 = .ok (.iaload, 1) := by decide +kernel
theorem dX7_isAsSeen_53 : decode cX7_isAsSeen 53 = .ok (.if_icmp .eq 5, 3) := by decide +kernel
theorem dX7_isAsSeen_56 : decode cX7_isAsSeen 56 = .ok (.iconst 0, 1) := by decide +kernel
theorem dX7_isAsSeen_57 : decode cX7_isAsSeen 57 = .ok (.ireturn, 1) := by decide +kernel
theorem dX7_isAsSeen_58 : decode cX7_isAsSeen 58 = .ok (.iinc 2 1, 3) := by decide +kernel
theorem dX7_isAsSeen_61 : decode cX7_isAsSeen 61 = .ok (.goto (-59), 3) := by decide +kernel
theorem dX7_isAsSeen_64 : decode cX7_isAsSeen 64 = .ok (.iconst 1, 1) := by decide +kernel
theorem dX7_isAsSeen_65 : decode cX7_isAsSeen 65 = .ok (.ireturn, 1) := by decide +kernel
def f_X7_isAsSeen_L2 (Λ : List Ly) (d : Dt) (p0 : Nat) (v1 : Int32) : Nat → Int32 → Option Int32
  | 0, _ => none
  | n + 1, v2 => if clsAt Λ p0 = some 7 then (if (d.1 p0 9) ≤ v2 then (some (1 : Int32)) else (Option.bind (rf Λ p0 7 6) fun q3 => if okA Λ q3 1 v2 = true then (if (d.1 q3 (v2).toNatClampNeg) = v1 then (Option.bind (rf Λ p0 7 7) fun q6 => if okA Λ q6 1 v2 = true then (Option.bind (f_X7_has Λ d p0 (d.1 q6 (v2).toNatClampNeg)) fun z8 => if z8 = 0 then (f_X7_isAsSeen_L2 Λ d p0 v1 n (v2 + (1 : Int32))) else (Option.bind (rf Λ p0 7 1) fun q10 => Option.bind (ra Λ q10 4 (d.1 q6 (v2).toNatClampNeg)) fun q11 => if clsAt Λ q11 = some 1 then (Option.bind (rf Λ p0 7 8) fun q13 => if okA Λ q13 1 v2 = true then (if (d.1 q11 3) = (d.1 q13 (v2).toNatClampNeg) then (f_X7_isAsSeen_L2 Λ d p0 v1 n (v2 + (1 : Int32))) else (some (0 : Int32))) else none) else none)) else none) else (f_X7_isAsSeen_L2 Λ d p0 v1 n (v2 + (1 : Int32)))) else none)) else none
def f_X7_isAsSeen (Λ : List Ly) (d : Dt) (p0 : Nat) (v1 : Int32) : Option Int32 := f_X7_isAsSeen_L2 Λ d p0 v1 FU (0 : Int32)
set_option maxHeartbeats 4000000 in
set_option maxRecDepth 100000 in
theorem w_X7_isAsSeen_L2 {p : Program} {l : Launch} {e : Env} {s : State} {m : MethodId} {args : Array Value} {below : List Frame} {meth : Method} {c : Code} {Γ : Cx} {Λ : List Ly} {z : Int32} {d : Dt} (C0 : Ct Γ p s m args c cX7_isAsSeen 3 "SeasonBound$World") (hr : meth.sig.returnType = (some FieldType.boolean)) (hlocks : meth.locks = false) (p0 : Nat) (v1 : Int32) :
    ∀ (n : Nat) (v2 : Int32), f_X7_isAsSeen_L2 Λ d p0 v1 n v2 = some z → ∀ (H : Heap) (locs : List Loc) (ls : Array Slot), Hs Γ Λ d s H locs → lv_has ls 3 [(0, .ref (ad Γ.2.2.1 p0)), (1, .int v1), (2, .int v2)] → W p l e { frames := 2, cells := 0, slots := 0, locals := 43 } s m args below meth c H locs 0 0 (MQ below (QN Γ Λ d (some (.int z))) args s 0 0 (AP Γ)) (F0 m 2 ls []) := by
  obtain ⟨hx, hb, hml, hown, hts, hK⟩ := id C0
  intro n
  induction n with
  | zero =>
    intro v2 hf
    cases hf
  | succ n ih =>
    intro v2 hf H locs ls hH hl
    unfold f_X7_isAsSeen_L2 at hf
    refine lv_iload_n hx hb dX7_isAsSeen_2 rfl (lv_at hl 2 rfl) ?_
    refine lv_aload_n hx hb dX7_isAsSeen_3 rfl (lv_at hl 0 rfl) ?_
    obtain ⟨g1, hf⟩ := gd hf
    refine r_geti C0 hH fl_X7_43 g1 rfl dX7_isAsSeen_4 ?_
    refine lv_icmp_ge (tgt := 64) hx hb dX7_isAsSeen_7 (by decide) (fun c2 => ?_) (fun c2 => ?_)
    · replace hf := it hf c2
      refine lv_iconst (v := (1 : Int32)) hx hb dX7_isAsSeen_64 (by decide) ?_
      obtain rfl := Option.some.inj hf
      exact r_iret (d' := d) C0 hr hlocks hH (nz (Or.inr rfl)) dX7_isAsSeen_65
    · replace hf := ie hf c2
      refine lv_aload_n hx hb dX7_isAsSeen_10 rfl (lv_at hl 0 rfl) ?_
      obtain ⟨q3, g3, hf⟩ := ob hf
      refine r_getr C0 hH fl_X7_23 g3 dX7_isAsSeen_11 ?_
      refine lv_iload_n hx hb dX7_isAsSeen_14 rfl (lv_at hl 2 rfl) ?_
      obtain ⟨g4, hf⟩ := gd hf
      refine r_iald C0 hH g4 dX7_isAsSeen_15 ?_
      refine lv_iload_n hx hb dX7_isAsSeen_16 rfl (lv_at hl 1 rfl) ?_
      refine lv_icmp_ne (tgt := 58) hx hb dX7_isAsSeen_17 (by decide) (fun c5 => ?_) (fun c5 => ?_)
      · replace hf := ie hf c5
        refine lv_iinc (v := (v2 + (1 : Int32))) (lv' := [(2, .int (v2 + (1 : Int32))), (0, .ref (ad Γ.2.2.1 p0)), (1, .int v1)]) hx hb dX7_isAsSeen_58 hl (k := 2) rfl (congrArg (fun w => v2 + w) (by decide)) (by decide) rfl (fun ls hl => ?_)
        refine lv_goto (tgt := 2) hx hb dX7_isAsSeen_61 (by decide) ?_
        exact ih (v2 + (1 : Int32)) hf _ _ _ hH (lv_sub hl [1, 2, 0] rfl)
      · replace hf := it hf c5
        refine lv_aload_n hx hb dX7_isAsSeen_20 rfl (lv_at hl 0 rfl) ?_
        refine lv_aload_n hx hb dX7_isAsSeen_21 rfl (lv_at hl 0 rfl) ?_
        obtain ⟨q6, g6, hf⟩ := ob hf
        refine r_getr C0 hH fl_X7_27 g6 dX7_isAsSeen_22 ?_
        refine lv_iload_n hx hb dX7_isAsSeen_25 rfl (lv_at hl 2 rfl) ?_
        obtain ⟨g7, hf⟩ := gd hf
        refine r_iald C0 hH g7 dX7_isAsSeen_26 ?_
        obtain ⟨z8, h8, hf⟩ := ob hf
        refine r_callVi (rest := []) C0 hH (c_X7_has Γ l Λ d p0 (d.1 q6 (v2).toNatClampNeg) z8 h8) cv_X7_75 g1 (by decide) rfl hl.1 rfl (Nat.le_of_ble_eq_true rfl) dX7_isAsSeen_27 (by decide) (fun H locs hH => ?_)
        refine lv_if_eq (tgt := 58) hx hb dX7_isAsSeen_30 (by decide) (fun c9 => ?_) (fun c9 => ?_)
        · replace hf := it hf c9
          refine lv_iinc (v := (v2 + (1 : Int32))) (lv' := [(2, .int (v2 + (1 : Int32))), (0, .ref (ad Γ.2.2.1 p0)), (1, .int v1)]) hx hb dX7_isAsSeen_58 hl (k := 2) rfl (congrArg (fun w => v2 + w) (by decide)) (by decide) rfl (fun ls hl => ?_)
          refine lv_goto (tgt := 2) hx hb dX7_isAsSeen_61 (by decide) ?_
          exact ih (v2 + (1 : Int32)) hf _ _ _ hH (lv_sub hl [1, 2, 0] rfl)
        · replace hf := ie hf c9
          refine lv_aload_n hx hb dX7_isAsSeen_33 rfl (lv_at hl 0 rfl) ?_
          obtain ⟨q10, g10, hf⟩ := ob hf
          refine r_getr C0 hH fl_X7_19 g10 dX7_isAsSeen_34 ?_
          refine lv_aload_n hx hb dX7_isAsSeen_37 rfl (lv_at hl 0 rfl) ?_
          refine r_getr C0 hH fl_X7_27 g6 dX7_isAsSeen_38 ?_
          refine lv_iload_n hx hb dX7_isAsSeen_41 rfl (lv_at hl 2 rfl) ?_
          refine r_iald C0 hH g7 dX7_isAsSeen_42 ?_
          obtain ⟨q11, g11, hf⟩ := ob hf
          refine r_aald (C := "SeasonBound$Child") C0 hH g11 (by decide) rfl dX7_isAsSeen_43 ?_
          obtain ⟨g12, hf⟩ := gd hf
          refine r_geti C0 hH fl_X7_123 g12 rfl dX7_isAsSeen_44 ?_
          refine lv_aload_n hx hb dX7_isAsSeen_47 rfl (lv_at hl 0 rfl) ?_
          obtain ⟨q13, g13, hf⟩ := ob hf
          refine r_getr C0 hH fl_X7_30 g13 dX7_isAsSeen_48 ?_
          refine lv_iload_n hx hb dX7_isAsSeen_51 rfl (lv_at hl 2 rfl) ?_
          obtain ⟨g14, hf⟩ := gd hf
          refine r_iald C0 hH g14 dX7_isAsSeen_52 ?_
          refine lv_icmp_eq (tgt := 58) hx hb dX7_isAsSeen_53 (by decide) (fun c15 => ?_) (fun c15 => ?_)
          · replace hf := it hf c15
            refine lv_iinc (v := (v2 + (1 : Int32))) (lv' := [(2, .int (v2 + (1 : Int32))), (0, .ref (ad Γ.2.2.1 p0)), (1, .int v1)]) hx hb dX7_isAsSeen_58 hl (k := 2) rfl (congrArg (fun w => v2 + w) (by decide)) (by decide) rfl (fun ls hl => ?_)
            refine lv_goto (tgt := 2) hx hb dX7_isAsSeen_61 (by decide) ?_
            exact ih (v2 + (1 : Int32)) hf _ _ _ hH (lv_sub hl [1, 2, 0] rfl)
          · replace hf := ie hf c15
            refine lv_iconst (v := (0 : Int32)) hx hb dX7_isAsSeen_56 (by decide) ?_
            obtain rfl := Option.some.inj hf
            exact r_iret (d' := d) C0 hr hlocks hH (nz (Or.inl rfl)) dX7_isAsSeen_57
set_option maxHeartbeats 4000000 in
set_option maxRecDepth 100000 in
theorem c_X7_isAsSeen (Γ : Cx) (l : Launch) (Λ : List Ly) (d : Dt) (p0 : Nat) (v1 : Int32) (z : Int32) (hf : f_X7_isAsSeen Λ d p0 v1 = some z) : Cn Γ l yX7_isAsSeen cX7_isAsSeen 3 (some FieldType.boolean) 2 43 [.ref (ad Γ.2.2.1 p0), .int v1] Λ d (some (.int z)) d := by
  refine Cn.of (own := "SeasonBound$World") (by decide +kernel) rfl (Nat.le_of_ble_eq_true rfl) ?_
  intro p e s m below meth c C0 hr hlocks hH ls hl
  have hl : lv_has ls 3 [(0, .ref (ad Γ.2.2.1 p0)), (1, .int v1)] := hl
  obtain ⟨hx, hb, hml, hown, hts, hK⟩ := id C0
  unfold f_X7_isAsSeen at hf
  refine lv_iconst (v := (0 : Int32)) hx hb dX7_isAsSeen_0 (by decide) ?_
  refine lv_istore_n (lv' := [(2, .int (0 : Int32)), (0, .ref (ad Γ.2.2.1 p0)), (1, .int v1)]) hx hb dX7_isAsSeen_1 rfl hl (by decide) rfl (fun ls hl => ?_)
  refine w_X7_isAsSeen_L2 C0 hr hlocks p0 v1 FU (0 : Int32) hf _ _ _ hH (lv_sub hl [1, 2, 0] rfl)
theorem dX7_comesAsSeen_0 : decode cX7_comesAsSeen 0 = .ok (.aload_n 0, 1) := by decide +kernel
theorem dX7_comesAsSeen_1 : decode cX7_comesAsSeen 1 = .ok (.invokevirtual 110, 3) := by decide +kernel
theorem dX7_comesAsSeen_4 : decode cX7_comesAsSeen 4 = .ok (.istore_n 1, 1) := by decide +kernel
theorem dX7_comesAsSeen_5 : decode cX7_comesAsSeen 5 = .ok (.iconst 0, 1) := by decide +kernel
theorem dX7_comesAsSeen_6 : decode cX7_comesAsSeen 6 = .ok (.istore_n 2, 1) := by decide +kernel
theorem dX7_comesAsSeen_7 : decode cX7_comesAsSeen 7 = .ok (.iload_n 2, 1) := by decide +kernel
theorem dX7_comesAsSeen_8 : decode cX7_comesAsSeen 8 = .ok (.iload_n 1, 1) := by decide +kernel
theorem dX7_comesAsSeen_9 : decode cX7_comesAsSeen 9 = .ok (.if_icmp .gt 23, 3) := by decide +kernel
theorem dX7_comesAsSeen_12 : decode cX7_comesAsSeen 12 = .ok (.aload_n 0, 1) := by decide +kernel
theorem dX7_comesAsSeen_13 : decode cX7_comesAsSeen 13 = .ok (.iload_n 2, 1) := by decide +kernel
theorem dX7_comesAsSeen_14 : decode cX7_comesAsSeen 14 = .ok (.invokevirtual 114, 3) := by decide +kernel
theorem dX7_comesAsSeen_17 : decode cX7_comesAsSeen 17 = .ok (.ifCond .ne 5, 3) := by decide +kernel
theorem dX7_comesAsSeen_20 : decode cX7_comesAsSeen 20 = .ok (.iconst 0, 1) := by decide +kernel
theorem dX7_comesAsSeen_21 : decode cX7_comesAsSeen 21 = .ok (.ireturn, 1) := by decide +kernel
theorem dX7_comesAsSeen_22 : decode cX7_comesAsSeen 22 = .ok (.aload_n 0, 1) := by decide +kernel
theorem dX7_comesAsSeen_23 : decode cX7_comesAsSeen 23 = .ok (.invokevirtual 101, 3) := by decide +kernel
theorem dX7_comesAsSeen_26 : decode cX7_comesAsSeen 26 = .ok (.iinc 2 1, 3) := by decide +kernel
theorem dX7_comesAsSeen_29 : decode cX7_comesAsSeen 29 = .ok (.goto (-22), 3) := by decide +kernel
theorem dX7_comesAsSeen_32 : decode cX7_comesAsSeen 32 = .ok (.iconst 1, 1) := by decide +kernel
theorem dX7_comesAsSeen_33 : decode cX7_comesAsSeen 33 = .ok (.ireturn, 1) := by decide +kernel
def f_X7_comesAsSeen_L7 (Λ : List Ly) (p0 : Nat) (v1 : Int32) : Nat → Int32 → Dt → Option (Int32 × Dt)
  | 0, _, _ => none
  | n + 1, v2, d => if v1 < v2 then (some ((1 : Int32), d)) else (if clsAt Λ p0 = some 7 then (Option.bind (f_X7_isAsSeen Λ d p0 v2) fun z5 => if z5 = 0 then (some ((0 : Int32), d)) else (Option.bind (f_X7_passOne Λ d p0) fun z7 => f_X7_comesAsSeen_L7 Λ p0 v1 n (v2 + (1 : Int32)) z7)) else none)
def f_X7_comesAsSeen (Λ : List Ly) (d : Dt) (p0 : Nat) : Option (Int32 × Dt) := if clsAt Λ p0 = some 7 then (Option.bind (f_X7_lastSeen Λ d p0) fun z2 => f_X7_comesAsSeen_L7 Λ p0 z2 FU (0 : Int32) d) else none
set_option maxHeartbeats 4000000 in
set_option maxRecDepth 100000 in
theorem w_X7_comesAsSeen_L7 {p : Program} {l : Launch} {e : Env} {s : State} {m : MethodId} {args : Array Value} {below : List Frame} {meth : Method} {c : Code} {Γ : Cx} {Λ : List Ly} {z : Int32 × Dt} (C0 : Ct Γ p s m args c cX7_comesAsSeen 3 "SeasonBound$World") (hr : meth.sig.returnType = (some FieldType.boolean)) (hlocks : meth.locks = false) (p0 : Nat) (v1 : Int32) :
    ∀ (n : Nat) (v2 : Int32) (d : Dt), f_X7_comesAsSeen_L7 Λ p0 v1 n v2 d = some z → ∀ (H : Heap) (locs : List Loc) (ls : Array Slot), Hs Γ Λ d s H locs → lv_has ls 3 [(0, .ref (ad Γ.2.2.1 p0)), (1, .int v1), (2, .int v2)] → W p l e { frames := 4, cells := 0, slots := 0, locals := 85 } s m args below meth c H locs 0 0 (MQ below (QN Γ Λ z.2 (some (.int z.1))) args s 0 0 (AP Γ)) (F0 m 7 ls []) := by
  obtain ⟨hx, hb, hml, hown, hts, hK⟩ := id C0
  intro n
  induction n with
  | zero =>
    intro v2 d hf
    cases hf
  | succ n ih =>
    intro v2 d hf H locs ls hH hl
    unfold f_X7_comesAsSeen_L7 at hf
    refine lv_iload_n hx hb dX7_comesAsSeen_7 rfl (lv_at hl 2 rfl) ?_
    refine lv_iload_n hx hb dX7_comesAsSeen_8 rfl (lv_at hl 1 rfl) ?_
    refine lv_icmp_gt (tgt := 32) hx hb dX7_comesAsSeen_9 (by decide) (fun c3 => ?_) (fun c3 => ?_)
    · replace hf := it hf c3
      refine lv_iconst (v := (1 : Int32)) hx hb dX7_comesAsSeen_32 (by decide) ?_
      obtain rfl := Option.some.inj hf
      exact r_iret (d' := d) C0 hr hlocks hH (nz (Or.inr rfl)) dX7_comesAsSeen_33
    · replace hf := ie hf c3
      refine lv_aload_n hx hb dX7_comesAsSeen_12 rfl (lv_at hl 0 rfl) ?_
      refine lv_iload_n hx hb dX7_comesAsSeen_13 rfl (lv_at hl 2 rfl) ?_
      obtain ⟨g4, hf⟩ := gd hf
      obtain ⟨z5, h5, hf⟩ := ob hf
      refine r_callVi (rest := []) C0 hH (c_X7_isAsSeen Γ l Λ d p0 v2 z5 h5) cv_X7_114 g4 (by decide) rfl hl.1 rfl (Nat.le_of_ble_eq_true rfl) dX7_comesAsSeen_14 (by decide) (fun H locs hH => ?_)
      refine lv_if_ne (tgt := 22) hx hb dX7_comesAsSeen_17 (by decide) (fun c6 => ?_) (fun c6 => ?_)
      · replace hf := ie hf c6
        refine lv_aload_n hx hb dX7_comesAsSeen_22 rfl (lv_at hl 0 rfl) ?_
        obtain ⟨z7, h7, hf⟩ := ob hf
        refine r_callVv (rest := []) C0 hH (c_X7_passOne Γ l Λ d p0 z7 h7) cv_X7_101 g4 (by decide) rfl hl.1 rfl (Nat.le_of_ble_eq_true rfl) dX7_comesAsSeen_23 (by decide) (fun H locs hH => ?_)
        refine lv_iinc (v := (v2 + (1 : Int32))) (lv' := [(2, .int (v2 + (1 : Int32))), (0, .ref (ad Γ.2.2.1 p0)), (1, .int v1)]) hx hb dX7_comesAsSeen_26 hl (k := 2) rfl (congrArg (fun w => v2 + w) (by decide)) (by decide) rfl (fun ls hl => ?_)
        refine lv_goto (tgt := 7) hx hb dX7_comesAsSeen_29 (by decide) ?_
        exact ih (v2 + (1 : Int32)) z7 hf _ _ _ hH (lv_sub hl [1, 2, 0] rfl)
      · replace hf := it hf c6
        refine lv_iconst (v := (0 : Int32)) hx hb dX7_comesAsSeen_20 (by decide) ?_
        obtain rfl := Option.some.inj hf
        exact r_iret (d' := d) C0 hr hlocks hH (nz (Or.inl rfl)) dX7_comesAsSeen_21
set_option maxHeartbeats 4000000 in
set_option maxRecDepth 100000 in
theorem c_X7_comesAsSeen (Γ : Cx) (l : Launch) (Λ : List Ly) (d : Dt) (p0 : Nat) (z : Int32 × Dt) (hf : f_X7_comesAsSeen Λ d p0 = some z) : Cn Γ l yX7_comesAsSeen cX7_comesAsSeen 3 (some FieldType.boolean) 4 85 [.ref (ad Γ.2.2.1 p0)] Λ d (some (.int z.1)) z.2 := by
  refine Cn.of (own := "SeasonBound$World") (by decide +kernel) rfl (Nat.le_of_ble_eq_true rfl) ?_
  intro p e s m below meth c C0 hr hlocks hH ls hl
  have hl : lv_has ls 3 [(0, .ref (ad Γ.2.2.1 p0))] := hl
  obtain ⟨hx, hb, hml, hown, hts, hK⟩ := id C0
  unfold f_X7_comesAsSeen at hf
  refine lv_aload_n hx hb dX7_comesAsSeen_0 rfl (lv_at hl 0 rfl) ?_
  obtain ⟨g1, hf⟩ := gd hf
  obtain ⟨z2, h2, hf⟩ := ob hf
  refine r_callVi (rest := []) C0 hH (c_X7_lastSeen Γ l Λ d p0 z2 h2) cv_X7_110 g1 (by decide) rfl hl.1 rfl (Nat.le_of_ble_eq_true rfl) dX7_comesAsSeen_1 (by decide) (fun H locs hH => ?_)
  refine lv_istore_n (lv' := [(1, .int z2), (0, .ref (ad Γ.2.2.1 p0))]) hx hb dX7_comesAsSeen_4 rfl hl (by decide) rfl (fun ls hl => ?_)
  refine lv_iconst (v := (0 : Int32)) hx hb dX7_comesAsSeen_5 (by decide) ?_
  refine lv_istore_n (lv' := [(2, .int (0 : Int32)), (1, .int z2), (0, .ref (ad Γ.2.2.1 p0))]) hx hb dX7_comesAsSeen_6 rfl hl (by decide) rfl (fun ls hl => ?_)
  refine w_X7_comesAsSeen_L7 C0 hr hlocks p0 z2 FU (0 : Int32) d hf _ _ _ hH (lv_sub hl [2, 1, 0] rfl)
