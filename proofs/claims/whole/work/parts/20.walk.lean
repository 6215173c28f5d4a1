theorem dX9_lay_0 : decode cX9_lay 0 = .ok (.iload_n 1, 1) := by decide +kernel
theorem dX9_lay_1 : decode cX9_lay 1 = .ok (.iconst 0, 1) := by decide +kernel
theorem dX9_lay_2 : decode cX9_lay 2 = .ok (.invokestatic 279, 3) := by decide +kernel
theorem dX9_lay_5 : decode cX9_lay 5 = .ok (.ifCond .ne 5, 3) := by decide +kernel
theorem dX9_lay_8 : decode cX9_lay 8 = .ok (.iconst (-1), 1) := by decide +kernel
theorem dX9_lay_9 : decode cX9_lay 9 = .ok (.ireturn, 1) := by decide +kernel
theorem dX9_lay_10 : decode cX9_lay 10 = .ok (.aload_n 0, 1) := by decide +kernel
theorem dX9_lay_11 : decode cX9_lay 11 = .ok (.getfield 32, 3) := by decide +kernel
theorem dX9_lay_14 : decode cX9_lay 14 = .ok (.iload_n 1, 1) := by decide +kernel
theorem dX9_lay_15 : decode cX9_lay 15 = .ok (.iaload, 1) := by decide +kernel
theorem dX9_lay_16 : decode cX9_lay 16 = .ok (.bipush (-4), 2) := by decide +kernel
theorem dX9_lay_18 : decode cX9_lay 18 = .ok (.if_icmp .ne 6, 3) := by decide +kernel
theorem dX9_lay_21 : decode cX9_lay 21 = .ok (.bipush (-11), 2) := by decide +kernel
theorem dX9_lay_23 : decode cX9_lay 23 = .ok (.ireturn, 1) := by decide +kernel
theorem dX9_lay_24 : decode cX9_lay 24 = .ok (.iload_n 2, 1) := by decide +kernel
theorem dX9_lay_25 : decode cX9_lay 25 = .ok (.i2l, 1) := by decide +kernel
theorem dX9_lay_26 : decode cX9_lay 26 = .ok (.lconst 0, 1) := by decide +kernel
theorem dX9_lay_27 : decode cX9_lay 27 = .ok (.aload_n 0, 1) := by decide +kernel
theorem dX9_lay_28 : decode cX9_lay 28 = .ok (.getfield 35, 3) := by decide +kernel
theorem dX9_lay_31 : decode cX9_lay 31 = .ok (.iload_n 1, 1) := by decide +kernel
theorem dX9_lay_32 : decode cX9_lay 32 = .ok (.iaload, 1) := by decide +kernel
theorem dX9_lay_33 : decode cX9_lay 33 = .ok (.iconst 1, 1) := by decide +kernel
theorem dX9_lay_34 : decode cX9_lay 34 = .ok (.isub, 1) := by decide +kernel
theorem dX9_lay_35 : decode cX9_lay 35 = .ok (.i2l, 1) := by decide +kernel
theorem dX9_lay_36 : decode cX9_lay 36 = .ok (.invokestatic 56, 3) := by decide +kernel
theorem dX9_lay_39 : decode cX9_lay 39 = .ok (.ifCond .ne 6, 3) := by decide +kernel
theorem dX9_lay_42 : decode cX9_lay 42 = .ok (.bipush (-12), 2) := by decide +kernel
theorem dX9_lay_44 : decode cX9_lay 44 = .ok (.ireturn, 1) := by decide +kernel
theorem dX9_lay_45 : decode cX9_lay 45 = .ok (.aload_n 0, 1) := by decide +kernel
theorem dX9_lay_46 : decode cX9_lay 46 = .ok (.getfield 38, 3) := by decide +kernel
theorem dX9_lay_49 : decode cX9_lay 49 = .ok (.bipush 40, 2) := by decide +kernel
theorem dX9_lay_51 : decode cX9_lay 51 = .ok (.iload_n 1, 1) := by decide +kernel
theorem dX9_lay_52 : decode cX9_lay 52 = .ok (.imul, 1) := by decide +kernel
theorem dX9_lay_53 : decode cX9_lay 53 = .ok (.iload_n 2, 1) := by decide +kernel
theorem dX9_lay_54 : decode cX9_lay 54 = .ok (.iadd, 1) := by decide +kernel
theorem dX9_lay_55 : decode cX9_lay 55 = .ok (.aload_n 0, 1) := by decide +kernel
theorem dX9_lay_56 : decode cX9_lay 56 = .ok (.getfield 32, 3) := by decide +kernel
theorem dX9_lay_59 : decode cX9_lay 59 = .ok (.iload_n 1, 1) := by decide +kernel
theorem dX9_lay_60 : decode cX9_lay 60 = .ok (.iaload, 1) := by decide +kernel
theorem dX9_lay_61 : decode cX9_lay 61 = .ok (.ifCond .ne 8, 3) := by decide +kernel
theorem dX9_lay_64 : decode cX9_lay 64 = .ok (.iload_n 3, 1) := by decide +kernel
theorem dX9_lay_65 : decode cX9_lay 65 = .ok (.i2b, 1) := by decide +kernel
theorem dX9_lay_66 : decode cX9_lay 66 = .ok (.goto 19, 3) := by decide +kernel
theorem dX9_lay_69 : decode cX9_lay 69 = .ok (.aload_n 0, 1) := by decide +kernel
theorem dX9_lay_70 : decode cX9_lay 70 = .ok (.getfield 32, 3) := by decide +kernel
theorem dX9_lay_73 : decode cX9_lay 73 = .ok (.iload_n 1, 1) := by decide +kernel
theorem dX9_lay_74 : decode cX9_lay 74 = .ok (.iaload, 1) := by decide +kernel
theorem dX9_lay_75 : decode cX9_lay 75 = .ok (.iconst 1, 1) := by decide +kernel
theorem dX9_lay_76 : decode cX9_lay 76 = .ok (.if_icmp .ne 8, 3) := by decide +kernel
theorem dX9_lay_79 : decode cX9_lay 79 = .ok (.iload_n 3, 1) := by decide +kernel
theorem dX9_lay_80 : decode cX9_lay 80 = .ok (.i2s, 1) := by decide +kernel
theorem dX9_lay_81 : decode cX9_lay 81 = .ok (.goto 4, 3) := by decide +kernel
theorem dX9_lay_84 : decode cX9_lay 84 = .ok (.iload_n 3, 1) := by decide +kernel
theorem dX9_lay_85 : decode cX9_lay 85 = .ok (.iastore, 1) := by decide +kernel
theorem dX9_lay_86 : decode cX9_lay 86 = .ok (.iconst 1, 1) := by decide +kernel
theorem dX9_lay_87 : decode cX9_lay 87 = .ok (.ireturn, 1) := by decide +kernel
def f_X9_lay (Λ : List Ly) (d : Dt) (p0 : Nat) (v1 : Int32) (v2 : Int32) (v3 : Int32) : Option (Int32 × Dt) := if (f_X9_isSheet v1 (0 : Int32)) = 0 then (some ((-1 : Int32), d)) else (Option.bind (rf Λ p0 9 20) fun q2 => if okA Λ q2 1 v1 = true then (if (d.1 q2 (v1).toNatClampNeg) = (-4 : Int32) then (some ((-11 : Int32), d)) else (Option.bind (rf Λ p0 9 21) fun q5 => if okA Λ q5 1 v1 = true then (if (f_X9_in (v2).toInt64 (0 : Int64) (((d.1 q5 (v1).toNatClampNeg) - (1 : Int32))).toInt64) = 0 then (some ((-12 : Int32), d)) else (Option.bind (rf Λ p0 9 22) fun q8 => if (d.1 q2 (v1).toNatClampNeg) = 0 then (if okA Λ q8 1 (((40 : Int32) * v1) + v2) = true then (some ((1 : Int32), (pI d q8 ((((40 : Int32) * v1) + v2)).toNatClampNeg (v3).toInt8.toInt32))) else none) else (if (d.1 q2 (v1).toNatClampNeg) = (1 : Int32) then (if okA Λ q8 1 (((40 : Int32) * v1) + v2) = true then (some ((1 : Int32), (pI d q8 ((((40 : Int32) * v1) + v2)).toNatClampNeg (v3).toInt16.toInt32))) else none) else (if okA Λ q8 1 (((40 : Int32) * v1) + v2) = true then (some ((1 : Int32), (pI d q8 ((((40 : Int32) * v1) + v2)).toNatClampNeg v3))) else none)))) else none)) else none)
set_option maxHeartbeats 4000000 in
set_option maxRecDepth 100000 in
theorem c_X9_lay (Γ : Cx) (l : Launch) (Λ : List Ly) (d : Dt) (p0 : Nat) (v1 : Int32) (v2 : Int32) (v3 : Int32) (z : Int32 × Dt) (hf : f_X9_lay Λ d p0 v1 v2 v3 = some z) : Cn Γ l yX9_lay cX9_lay 4 (some FieldType.int) 2 46 [.ref (ad Γ.2.2.1 p0), .int v1, .int v2, .int v3] Λ d (some (.int z.1)) z.2 := by
  refine Cn.of (own := "SeasonBoundModel") (by decide +kernel) rfl (Nat.le_of_ble_eq_true rfl) ?_
  intro p e s m below meth c C0 hr hlocks hH ls hl
  have hl : lv_has ls 4 [(0, .ref (ad Γ.2.2.1 p0)), (1, .int v1), (2, .int v2), (3, .int v3)] := hl
  obtain ⟨hx, hb, hml, hown, hts, hK⟩ := id C0
  unfold f_X9_lay at hf
  refine lv_iload_n hx hb dX9_lay_0 rfl (lv_at hl 1 rfl) ?_
  refine lv_iconst (v := (0 : Int32)) hx hb dX9_lay_1 (by decide) ?_
  refine r_callSi (rest := []) C0 hH (c_X9_isSheet Γ l Λ d v1 (0 : Int32)) cs_X9_279 (by decide) rfl hl.1 rfl (Nat.le_of_ble_eq_true rfl) dX9_lay_2 (by decide) (fun H locs hH => ?_)
  refine lv_if_ne (tgt := 10) hx hb dX9_lay_5 (by decide) (fun c1 => ?_) (fun c1 => ?_)
  · replace hf := ie hf c1
    refine lv_aload_n hx hb dX9_lay_10 rfl (lv_at hl 0 rfl) ?_
    obtain ⟨q2, g2, hf⟩ := ob hf
    refine r_getr C0 hH fl_X9_32 g2 dX9_lay_11 ?_
    refine lv_iload_n hx hb dX9_lay_14 rfl (lv_at hl 1 rfl) ?_
    obtain ⟨g3, hf⟩ := gd hf
    refine r_iald C0 hH g3 dX9_lay_15 ?_
    refine lv_bipush (v := (-4 : Int32)) hx hb dX9_lay_16 (by decide) ?_
    refine lv_icmp_ne (tgt := 24) hx hb dX9_lay_18 (by decide) (fun c4 => ?_) (fun c4 => ?_)
    · replace hf := ie hf c4
      refine lv_iload_n hx hb dX9_lay_24 rfl (lv_at hl 2 rfl) ?_
      refine lv_i2l (v := (v2).toInt64) hx hb dX9_lay_25 rfl ?_
      refine lv_lconst (v := (0 : Int64)) hx hb dX9_lay_26 (by decide) ?_
      refine lv_aload_n hx hb dX9_lay_27 rfl (lv_at hl 0 rfl) ?_
      obtain ⟨q5, g5, hf⟩ := ob hf
      refine r_getr C0 hH fl_X9_35 g5 dX9_lay_28 ?_
      refine lv_iload_n hx hb dX9_lay_31 rfl (lv_at hl 1 rfl) ?_
      obtain ⟨g6, hf⟩ := gd hf
      refine r_iald C0 hH g6 dX9_lay_32 ?_
      refine lv_iconst (v := (1 : Int32)) hx hb dX9_lay_33 (by decide) ?_
      refine lv_isub hx hb dX9_lay_34 ?_
      refine lv_i2l (v := (((d.1 q5 (v1).toNatClampNeg) - (1 : Int32))).toInt64) hx hb dX9_lay_35 rfl ?_
      refine r_callSi (rest := []) C0 hH (c_X9_in Γ l Λ d (v2).toInt64 (0 : Int64) (((d.1 q5 (v1).toNatClampNeg) - (1 : Int32))).toInt64) cs_X9_56 (by decide) rfl hl.1 rfl (Nat.le_of_ble_eq_true rfl) dX9_lay_36 (by decide) (fun H locs hH => ?_)
      refine lv_if_ne (tgt := 45) hx hb dX9_lay_39 (by decide) (fun c7 => ?_) (fun c7 => ?_)
      · replace hf := ie hf c7
        refine lv_aload_n hx hb dX9_lay_45 rfl (lv_at hl 0 rfl) ?_
        obtain ⟨q8, g8, hf⟩ := ob hf
        refine r_getr C0 hH fl_X9_38 g8 dX9_lay_46 ?_
        refine lv_bipush (v := (40 : Int32)) hx hb dX9_lay_49 (by decide) ?_
        refine lv_iload_n hx hb dX9_lay_51 rfl (lv_at hl 1 rfl) ?_
        refine lv_imul hx hb dX9_lay_52 ?_
        refine lv_iload_n hx hb dX9_lay_53 rfl (lv_at hl 2 rfl) ?_
        refine lv_iadd hx hb dX9_lay_54 ?_
        refine lv_aload_n hx hb dX9_lay_55 rfl (lv_at hl 0 rfl) ?_
        refine r_getr C0 hH fl_X9_32 g2 dX9_lay_56 ?_
        refine lv_iload_n hx hb dX9_lay_59 rfl (lv_at hl 1 rfl) ?_
        refine r_iald C0 hH g3 dX9_lay_60 ?_
        refine lv_if_ne (tgt := 69) hx hb dX9_lay_61 (by decide) (fun c9 => ?_) (fun c9 => ?_)
        · replace hf := ie hf c9
          refine lv_aload_n hx hb dX9_lay_69 rfl (lv_at hl 0 rfl) ?_
          refine r_getr C0 hH fl_X9_32 g2 dX9_lay_70 ?_
          refine lv_iload_n hx hb dX9_lay_73 rfl (lv_at hl 1 rfl) ?_
          refine r_iald C0 hH g3 dX9_lay_74 ?_
          refine lv_iconst (v := (1 : Int32)) hx hb dX9_lay_75 (by decide) ?_
          refine lv_icmp_ne (tgt := 84) hx hb dX9_lay_76 (by decide) (fun c10 => ?_) (fun c10 => ?_)
          · replace hf := ie hf c10
            refine lv_iload_n hx hb dX9_lay_84 rfl (lv_at hl 3 rfl) ?_
            obtain ⟨g11, hf⟩ := gd hf
            refine r_iast C0 hH g11 dX9_lay_85 (fun H locs hH => ?_)
            refine lv_iconst (v := (1 : Int32)) hx hb dX9_lay_86 (by decide) ?_
            obtain rfl := Option.some.inj hf
            exact r_iret (d' := d) C0 hr hlocks hH rfl dX9_lay_87
          · replace hf := it hf c10
            refine lv_iload_n hx hb dX9_lay_79 rfl (lv_at hl 3 rfl) ?_
            refine lv_i2s (v := (v3).toInt16.toInt32) hx hb dX9_lay_80 rfl ?_
            refine lv_goto (tgt := 85) hx hb dX9_lay_81 (by decide) ?_
            obtain ⟨g12, hf⟩ := gd hf
            refine r_iast C0 hH g12 dX9_lay_85 (fun H locs hH => ?_)
            refine lv_iconst (v := (1 : Int32)) hx hb dX9_lay_86 (by decide) ?_
            obtain rfl := Option.some.inj hf
            exact r_iret (d' := d) C0 hr hlocks hH rfl dX9_lay_87
        · replace hf := it hf c9
          refine lv_iload_n hx hb dX9_lay_64 rfl (lv_at hl 3 rfl) ?_
          refine lv_i2b (v := (v3).toInt8.toInt32) hx hb dX9_lay_65 rfl ?_
          refine lv_goto (tgt := 85) hx hb dX9_lay_66 (by decide) ?_
          obtain ⟨g13, hf⟩ := gd hf
          refine r_iast C0 hH g13 dX9_lay_85 (fun H locs hH => ?_)
          refine lv_iconst (v := (1 : Int32)) hx hb dX9_lay_86 (by decide) ?_
          obtain rfl := Option.some.inj hf
          exact r_iret (d' := d) C0 hr hlocks hH rfl dX9_lay_87
      · replace hf := it hf c7
        refine lv_bipush (v := (-12 : Int32)) hx hb dX9_lay_42 (by decide) ?_
        obtain rfl := Option.some.inj hf
        exact r_iret (d' := d) C0 hr hlocks hH rfl dX9_lay_44
    · replace hf := it hf c4
      refine lv_bipush (v := (-11 : Int32)) hx hb dX9_lay_21 (by decide) ?_
      obtain rfl := Option.some.inj hf
      exact r_iret (d' := d) C0 hr hlocks hH rfl dX9_lay_23
  · replace hf := it hf c1
    refine lv_iconst (v := (-1 : Int32)) hx hb dX9_lay_8 (by decide) ?_
    obtain rfl := Option.some.inj hf
    exact r_iret (d' := d) C0 hr hlocks hH rfl dX9_lay_9
theorem dX9_read_0 : decode cX9_read 0 = .ok (.iload_n 1, 1) := by decide +kernel
theorem dX9_read_1 : decode cX9_read 1 = .ok (.iload_n 2, 1) := by decide +kernel
theorem dX9_read_2 : decode cX9_read 2 = .ok (.invokestatic 279, 3) := by decide +kernel
theorem dX9_read_5 : decode cX9_read 5 = .ok (.ifCond .eq 16, 3) := by decide +kernel
theorem dX9_read_8 : decode cX9_read 8 = .ok (.iload 4, 2) := by decide +kernel
theorem dX9_read_10 : decode cX9_read 10 = .ok (.i2l, 1) := by decide +kernel
theorem dX9_read_11 : decode cX9_read 11 = .ok (.lconst 0, 1) := by decide +kernel
theorem dX9_read_12 : decode cX9_read 12 = .ok (.ldc2_w 282, 3) := by decide +kernel
theorem dX9_read_15 : decode cX9_read 15 = .ok (.invokestatic 56, 3) := by decide +kernel
theorem dX9_read_18 : decode cX9_read 18 = .ok (.ifCond .ne 5, 3) := by decide +kernel
theorem dX9_read_21 : decode cX9_read 21 = .ok (.iconst (-1), 1) := by decide +kernel
theorem dX9_read_22 : decode cX9_read 22 = .ok (.ireturn, 1) := by decide +kernel
theorem dX9_read_23 : decode cX9_read 23 = .ok (.iconst 0, 1) := by decide +kernel
theorem dX9_read_24 : decode cX9_read 24 = .ok (.istore 5, 2) := by decide +kernel
theorem dX9_read_26 : decode cX9_read 26 = .ok (.iload 5, 2) := by decide +kernel
theorem dX9_read_28 : decode cX9_read 28 = .ok (.bipush 60, 2) := by decide +kernel
theorem dX9_read_30 : decode cX9_read 30 = .ok (.if_icmp .ge 23, 3) := by decide +kernel
theorem dX9_read_33 : decode cX9_read 33 = .ok (.aload_n 0, 1) := by decide +kernel
theorem dX9_read_34 : decode cX9_read 34 = .ok (.getfield 41, 3) := by decide +kernel
theorem dX9_read_37 : decode cX9_read 37 = .ok (.iload 5, 2) := by decide +kernel
theorem dX9_read_39 : decode cX9_read 39 = .ok (.aload_n 0, 1) := by decide +kernel
theorem dX9_read_40 : decode cX9_read 40 = .ok (.getfield 7, 3) := by decide +kernel
theorem dX9_read_43 : decode cX9_read 43 = .ok (.iload 5, 2) := by decide +kernel
theorem dX9_read_45 : decode cX9_read 45 = .ok (.iaload, 1) := by decide +kernel
theorem dX9_read_46 : decode cX9_read 46 = .ok (.iastore, 1) := by decide +kernel
theorem dX9_read_47 : decode cX9_read 47 = .ok (.iinc 5 1, 3) := by decide +kernel
theorem dX9_read_50 : decode cX9_read 50 = .ok (.goto (-24), 3) := by decide +kernel
theorem dX9_read_53 : decode cX9_read 53 = .ok (.iconst 0, 1) := by decide +kernel
theorem dX9_read_54 : decode cX9_read 54 = .ok (.istore 5, 2) := by decide +kernel
theorem dX9_read_56 : decode cX9_read 56 = .ok (.iconst 0, 1) := by decide +kernel
theorem dX9_read_57 : decode cX9_read 57 = .ok (.istore 6, 2) := by decide +kernel
theorem dX9_read_59 : decode cX9_read 59 = .ok (.iconst 0, 1) := by decide +kernel
theorem dX9_read_60 : decode cX9_read 60 = .ok (.istore 7, 2) := by decide +kernel
theorem dX9_read_62 : decode cX9_read 62 = .ok (.iload 7, 2) := by decide +kernel
theorem dX9_read_64 : decode cX9_read 64 = .ok (.iload 4, 2) := by decide +kernel
theorem dX9_read_66 : decode cX9_read 66 = .ok (.if_icmp .ge 193, 3) := by decide +kernel
theorem dX9_read_69 : decode cX9_read 69 = .ok (.iload 5, 2) := by decide +kernel
theorem dX9_read_71 : decode cX9_read 71 = .ok (.ifCond .ne 188, 3) := by decide +kernel
theorem dX9_read_74 : decode cX9_read 74 = .ok (.iconst 0, 1) := by decide +kernel
theorem dX9_read_75 : decode cX9_read 75 = .ok (.istore 8, 2) := by decide +kernel
theorem dX9_read_77 : decode cX9_read 77 = .ok (.iload 8, 2) := by decide +kernel
theorem dX9_read_79 : decode cX9_read 79 = .ok (.iconst 3, 1) := by decide +kernel
theorem dX9_read_80 : decode cX9_read 80 = .ok (.if_icmp .ge 84, 3) := by decide +kernel
theorem dX9_read_83 : decode cX9_read 83 = .ok (.iload 5, 2) := by decide +kernel
theorem dX9_read_85 : decode cX9_read 85 = .ok (.ifCond .ne 79, 3) := by decide +kernel
theorem dX9_read_88 : decode cX9_read 88 = .ok (.iload_n 3, 1) := by decide +kernel
theorem dX9_read_89 : decode cX9_read 89 = .ok (.i2l, 1) := by decide +kernel
theorem dX9_read_90 : decode cX9_read 90 = .ok (.iconst 3, 1) := by decide +kernel
theorem dX9_read_91 : decode cX9_read 91 = .ok (.iload 7, 2) := by decide +kernel
theorem dX9_read_93 : decode cX9_read 93 = .ok (.imul, 1) := by decide +kernel
theorem dX9_read_94 : decode cX9_read 94 = .ok (.i2l, 1) := by decide +kernel
theorem dX9_read_95 : decode cX9_read 95 = .ok (.ladd, 1) := by decide +kernel
theorem dX9_read_96 : decode cX9_read 96 = .ok (.iload 8, 2) := by decide +kernel
theorem dX9_read_98 : decode cX9_read 98 = .ok (.i2l, 1) := by decide +kernel
theorem dX9_read_99 : decode cX9_read 99 = .ok (.ladd, 1) := by decide +kernel
theorem dX9_read_100 : decode cX9_read 100 = .ok (.lstore 9, 2) := by decide +kernel
theorem dX9_read_102 : decode cX9_read 102 = .ok (.aload_n 0, 1) := by decide +kernel
theorem dX9_read_103 : decode cX9_read 103 = .ok (.getfield 32, 3) := by decide +kernel
theorem dX9_read_106 : decode cX9_read 106 = .ok (.iload_n 1, 1) := by decide +kernel
theorem dX9_read_107 : decode cX9_read 107 = .ok (.iaload, 1) := by decide +kernel
theorem dX9_read_108 : decode cX9_read 108 = .ok (.bipush (-4), 2) := by decide +kernel
theorem dX9_read_110 : decode cX9_read 110 = .ok (.if_icmp .ne 7, 3) := by decide +kernel
theorem dX9_read_113 : decode cX9_read 113 = .ok (.iconst 1, 1) := by decide +kernel
theorem dX9_read_114 : decode cX9_read 114 = .ok (.goto 42, 3) := by decide +kernel
theorem dX9_read_117 : decode cX9_read 117 = .ok (.aload_n 0, 1) := by decide +kernel
theorem dX9_read_118 : decode cX9_read 118 = .ok (.getfield 32, 3) := by decide +kernel
theorem dX9_read_121 : decode cX9_read 121 = .ok (.iload_n 1, 1) := by decide +kernel
theorem dX9_read_122 : decode cX9_read 122 = .ok (.iaload, 1) := by decide +kernel
theorem dX9_read_123 : decode cX9_read 123 = .ok (.iload_n 2, 1) := by decide +kernel
theorem dX9_read_124 : decode cX9_read 124 = .ok (.if_icmp .eq 7, 3) := by decide +kernel
theorem dX9_read_127 : decode cX9_read 127 = .ok (.iconst 3, 1) := by decide +kernel
theorem dX9_read_128 : decode cX9_read 128 = .ok (.goto 28, 3) := by decide +kernel
theorem dX9_read_131 : decode cX9_read 131 = .ok (.lload 9, 2) := by decide +kernel
theorem dX9_read_133 : decode cX9_read 133 = .ok (.lconst 0, 1) := by decide +kernel
theorem dX9_read_134 : decode cX9_read 134 = .ok (.lcmp, 1) := by decide +kernel
theorem dX9_read_135 : decode cX9_read 135 = .ok (.ifCond .lt 16, 3) := by decide +kernel
theorem dX9_read_138 : decode cX9_read 138 = .ok (.lload 9, 2) := by decide +kernel
theorem dX9_read_140 : decode cX9_read 140 = .ok (.aload_n 0, 1) := by decide +kernel
theorem dX9_read_141 : decode cX9_read 141 = .ok (.getfield 35, 3) := by decide +kernel
theorem dX9_read_144 : decode cX9_read 144 = .ok (.iload_n 1, 1) := by decide +kernel
theorem dX9_read_145 : decode cX9_read 145 = .ok (.iaload, 1) := by decide +kernel
theorem dX9_read_146 : decode cX9_read 146 = .ok (.i2l, 1) := by decide +kernel
theorem dX9_read_147 : decode cX9_read 147 = .ok (.lcmp, 1) := by decide +kernel
theorem dX9_read_148 : decode cX9_read 148 = .ok (.ifCond .lt 7, 3) := by decide +kernel
theorem dX9_read_151 : decode cX9_read 151 = .ok (.iconst 2, 1) := by decide +kernel
theorem dX9_read_152 : decode cX9_read 152 = .ok (.goto 4, 3) := by decide +kernel
theorem dX9_read_155 : decode cX9_read 155 = .ok (.iconst 0, 1) := by decide +kernel
theorem dX9_read_156 : decode cX9_read 156 = .ok (.istore 5, 2) := by decide +kernel
theorem dX9_read_158 : decode cX9_read 158 = .ok (.iinc 8 1, 3) := by decide +kernel
theorem dX9_read_161 : decode cX9_read 161 = .ok (.goto (-84), 3) := by decide +kernel
theorem dX9_read_164 : decode cX9_read 164 = .ok (.iload 5, 2) := by decide +kernel
theorem dX9_read_166 : decode cX9_read 166 = .ok (.ifCond .ne 87, 3) := by decide +kernel
theorem dX9_read_169 : decode cX9_read 169 = .ok (.bipush 40, 2) := by decide +kernel
theorem dX9_read_171 : decode cX9_read 171 = .ok (.iload_n 1, 1) := by decide +kernel
theorem dX9_read_172 : decode cX9_read 172 = .ok (.imul, 1) := by decide +kernel
theorem dX9_read_173 : decode cX9_read 173 = .ok (.iload_n 3, 1) := by decide +kernel
theorem dX9_read_174 : decode cX9_read 174 = .ok (.iadd, 1) := by decide +kernel
theorem dX9_read_175 : decode cX9_read 175 = .ok (.iconst 3, 1) := by decide +kernel
theorem dX9_read_176 : decode cX9_read 176 = .ok (.iload 7, 2) := by decide +kernel
theorem dX9_read_178 : decode cX9_read 178 = .ok (.imul, 1) := by decide +kernel
theorem dX9_read_179 : decode cX9_read 179 = .ok (.iadd, 1) := by decide +kernel
theorem dX9_read_180 : decode cX9_read 180 = .ok (.istore 8, 2) := by decide +kernel
theorem dX9_read_182 : decode cX9_read 182 = .ok (.aload_n 0, 1) := by decide +kernel
theorem dX9_read_183 : decode cX9_read 183 = .ok (.aload_n 0, 1) := by decide +kernel
theorem dX9_read_184 : decode cX9_read 184 = .ok (.getfield 38, 3) := by decide +kernel
theorem dX9_read_187 : decode cX9_read 187 = .ok (.iload 8, 2) := by decide +kernel
theorem dX9_read_189 : decode cX9_read 189 = .ok (.iaload, 1) := by decide +kernel
theorem dX9_read_190 : decode cX9_read 190 = .ok (.aload_n 0, 1) := by decide +kernel
theorem dX9_read_191 : decode cX9_read 191 = .ok (.getfield 38, 3) := by decide +kernel
theorem dX9_read_194 : decode cX9_read 194 = .ok (.iload 8, 2) := by decide +kernel
theorem dX9_read_196 : decode cX9_read 196 = .ok (.iconst 1, 1) := by decide +kernel
theorem dX9_read_197 : decode cX9_read 197 = .ok (.iadd, 1) := by decide +kernel
theorem dX9_read_198 : decode cX9_read 198 = .ok (.iaload, 1) := by decide +kernel
theorem dX9_read_199 : decode cX9_read 199 = .ok (.aload_n 0, 1) := by decide +kernel
theorem dX9_read_200 : decode cX9_read 200 = .ok (.getfield 38, 3) := by decide +kernel
theorem dX9_read_203 : decode cX9_read 203 = .ok (.iload 8, 2) := by decide +kernel
theorem dX9_read_205 : decode cX9_read 205 = .ok (.iconst 2, 1) := by decide +kernel
theorem dX9_read_206 : decode cX9_read 206 = .ok (.iadd, 1) := by decide +kernel
theorem dX9_read_207 : decode cX9_read 207 = .ok (.iaload, 1) := by decide +kernel
theorem dX9_read_208 : decode cX9_read 208 = .ok (.invokevirtual 284, 3) := by decide +kernel
theorem dX9_read_211 : decode cX9_read 211 = .ok (.ifCond .ge 39, 3) := by decide +kernel
theorem dX9_read_214 : decode cX9_read 214 = .ok (.iconst 0, 1) := by decide +kernel
theorem dX9_read_215 : decode cX9_read 215 = .ok (.istore 9, 2) := by decide +kernel
theorem dX9_read_217 : decode cX9_read 217 = .ok (.iload 9, 2) := by decide +kernel
theorem dX9_read_219 : decode cX9_read 219 = .ok (.bipush 60, 2) := by decide +kernel
theorem dX9_read_221 : decode cX9_read 221 = .ok (.if_icmp .ge 23, 3) := by decide +kernel
theorem dX9_read_224 : decode cX9_read 224 = .ok (.aload_n 0, 1) := by decide +kernel
theorem dX9_read_225 : decode cX9_read 225 = .ok (.getfield 7, 3) := by decide +kernel
theorem dX9_read_228 : decode cX9_read 228 = .ok (.iload 9, 2) := by decide +kernel
theorem dX9_read_230 : decode cX9_read 230 = .ok (.aload_n 0, 1) := by decide +kernel
theorem dX9_read_231 : decode cX9_read 231 = .ok (.getfield 41, 3) := by decide +kernel
theorem dX9_read_234 : decode cX9_read 234 = .ok (.iload 9, 2) := by decide +kernel
theorem dX9_read_236 : decode cX9_read 236 = .ok (.iaload, 1) := by decide +kernel
theorem dX9_read_237 : decode cX9_read 237 = .ok (.iastore, 1) := by decide +kernel
theorem dX9_read_238 : decode cX9_read 238 = .ok (.iinc 9 1, 3) := by decide +kernel
theorem dX9_read_241 : decode cX9_read 241 = .ok (.goto (-24), 3) := by decide +kernel
theorem dX9_read_244 : decode cX9_read 244 = .ok (.bipush (-20), 2) := by decide +kernel
theorem dX9_read_246 : decode cX9_read 246 = .ok (.iload 7, 2) := by decide +kernel
theorem dX9_read_248 : decode cX9_read 248 = .ok (.isub, 1) := by decide +kernel
theorem dX9_read_249 : decode cX9_read 249 = .ok (.ireturn, 1) := by decide +kernel
theorem dX9_read_250 : decode cX9_read 250 = .ok (.iinc 6 1, 3) := by decide +kernel
theorem dX9_read_253 : decode cX9_read 253 = .ok (.iinc 7 1, 3) := by decide +kernel
theorem dX9_read_256 : decode cX9_read 256 = .ok (.goto (-194), 3) := by decide +kernel
theorem dX9_read_259 : decode cX9_read 259 = .ok (.aload_n 0, 1) := by decide +kernel
theorem dX9_read_260 : decode cX9_read 260 = .ok (.iload 5, 2) := by decide +kernel
theorem dX9_read_262 : decode cX9_read 262 = .ok (.putfield 288, 3) := by decide +kernel
theorem dX9_read_265 : decode cX9_read 265 = .ok (.iload 6, 2) := by decide +kernel
theorem dX9_read_267 : decode cX9_read 267 = .ok (.ireturn, 1) := by decide +kernel
def f_X9_read_L26 (Λ : List Ly) (p0 : Nat) (v1 : Int32) (v2 : Int32) (v3 : Int32) (v4 : Int32) (k53 : Int32 → Dt → Option (Int32 × Dt)) : Nat → Int32 → Dt → Option (Int32 × Dt)
  | 0, _, _ => none
  | n + 1, v5, d => if (60 : Int32) ≤ v5 then (k53 v5 d) else (Option.bind (rf Λ p0 9 24) fun q4 => Option.bind (rf Λ p0 9 0) fun q5 => if okA Λ q5 1 v5 = true then (if okA Λ q4 1 v5 = true then (f_X9_read_L26 Λ p0 v1 v2 v3 v4 k53 n (v5 + (1 : Int32)) (pI d q4 (v5).toNatClampNeg (d.1 q5 (v5).toNatClampNeg))) else none) else none)
def f_X9_read_L77 (Λ : List Ly) (d : Dt) (p0 : Nat) (v1 : Int32) (v2 : Int32) (v3 : Int32) (v4 : Int32) (v6 : Int32) (v7 : Int32) (k164 : Int32 → Int32 → Option (Int32 × Dt)) : Nat → Int32 → Int32 → Option (Int32 × Dt)
  | 0, _, _ => none
  | n + 1, v5, v8 => if (3 : Int32) ≤ v8 then (k164 v5 v8) else (if v5 = 0 then (Option.bind (rf Λ p0 9 20) fun q15 => if okA Λ q15 1 v1 = true then (if (d.1 q15 (v1).toNatClampNeg) = (-4 : Int32) then (f_X9_read_L77 Λ d p0 v1 v2 v3 v4 v6 v7 k164 n (1 : Int32) (v8 + (1 : Int32))) else (if (d.1 q15 (v1).toNatClampNeg) = v2 then (if (lg_cmp (((v3).toInt64 + (((3 : Int32) * v7)).toInt64) + (v8).toInt64) (0 : Int64)) < 0 then (f_X9_read_L77 Λ d p0 v1 v2 v3 v4 v6 v7 k164 n (2 : Int32) (v8 + (1 : Int32))) else (Option.bind (rf Λ p0 9 21) fun q20 => if okA Λ q20 1 v1 = true then (if (lg_cmp (((v3).toInt64 + (((3 : Int32) * v7)).toInt64) + (v8).toInt64) ((d.1 q20 (v1).toNatClampNeg)).toInt64) < 0 then (f_X9_read_L77 Λ d p0 v1 v2 v3 v4 v6 v7 k164 n (0 : Int32) (v8 + (1 : Int32))) else (f_X9_read_L77 Λ d p0 v1 v2 v3 v4 v6 v7 k164 n (2 : Int32) (v8 + (1 : Int32)))) else none)) else (f_X9_read_L77 Λ d p0 v1 v2 v3 v4 v6 v7 k164 n (3 : Int32) (v8 + (1 : Int32))))) else none) else (k164 v5 v8))
def f_X9_read_L217 (Λ : List Ly) (p0 : Nat) (v7 : Int32) : Nat → Int32 → Dt → Option (Int32 × Dt)
  | 0, _, _ => none
  | n + 1, v9, d => if (60 : Int32) ≤ v9 then (some (((-20 : Int32) - v7), d)) else (Option.bind (rf Λ p0 9 0) fun q33 => Option.bind (rf Λ p0 9 24) fun q34 => if okA Λ q34 1 v9 = true then (if okA Λ q33 1 v9 = true then (f_X9_read_L217 Λ p0 v7 n (v9 + (1 : Int32)) (pI d q33 (v9).toNatClampNeg (d.1 q34 (v9).toNatClampNeg))) else none) else none)
def f_X9_read_J164 (Λ : List Ly) (d : Dt) (kb : Int32 → Int32 → Int32 → Dt → Option (Int32 × Dt)) (p0 : Nat) (v1 : Int32) (v2 : Int32) (v3 : Int32) (v4 : Int32) (v5 : Int32) (v6 : Int32) (v7 : Int32) : Option (Int32 × Dt) := if v5 = 0 then (Option.bind (rf Λ p0 9 22) fun q25 => if okA Λ q25 1 ((((40 : Int32) * v1) + v3) + ((3 : Int32) * v7)) = true then (if okA Λ q25 1 (((((40 : Int32) * v1) + v3) + ((3 : Int32) * v7)) + (1 : Int32)) = true then (if okA Λ q25 1 (((((40 : Int32) * v1) + v3) + ((3 : Int32) * v7)) + (2 : Int32)) = true then (if clsAt Λ p0 = some 9 then (Option.bind (f_X9_bind Λ d p0 (d.1 q25 (((((40 : Int32) * v1) + v3) + ((3 : Int32) * v7))).toNatClampNeg) (d.1 q25 ((((((40 : Int32) * v1) + v3) + ((3 : Int32) * v7)) + (1 : Int32))).toNatClampNeg) (d.1 q25 ((((((40 : Int32) * v1) + v3) + ((3 : Int32) * v7)) + (2 : Int32))).toNatClampNeg)) fun z30 => if 0 ≤ z30.1 then (kb v5 (v6 + (1 : Int32)) (v7 + (1 : Int32)) z30.2) else (f_X9_read_L217 Λ p0 v7 FU (0 : Int32) z30.2)) else none) else none) else none) else none) else (kb v5 v6 (v7 + (1 : Int32)) d)
def f_X9_read_L62 (Λ : List Ly) (p0 : Nat) (v1 : Int32) (v2 : Int32) (v3 : Int32) (v4 : Int32) : Nat → Int32 → Int32 → Int32 → Dt → Option (Int32 × Dt)
  | 0, _, _, _, _ => none
  | n + 1, v5, v6, v7, d => if v4 ≤ v7 then (if clsAt Λ p0 = some 9 then (some (v6, (pI d p0 23 v5))) else none) else (if v5 = 0 then (f_X9_read_L77 Λ d p0 v1 v2 v3 v4 v6 v7 (fun x23_5 x23_8 => f_X9_read_J164 Λ d (f_X9_read_L62 Λ p0 v1 v2 v3 v4 n) p0 v1 v2 v3 v4 x23_5 v6 v7) FU v5 (0 : Int32)) else (if clsAt Λ p0 = some 9 then (some (v6, (pI d p0 23 v5))) else none))
def f_X9_read (Λ : List Ly) (d : Dt) (p0 : Nat) (v1 : Int32) (v2 : Int32) (v3 : Int32) (v4 : Int32) : Option (Int32 × Dt) := if (f_X9_isSheet v1 v2) = 0 then (some ((-1 : Int32), d)) else (if (f_X9_in (v4).toInt64 (0 : Int64) (13 : Int64)) = 0 then (some ((-1 : Int32), d)) else (f_X9_read_L26 Λ p0 v1 v2 v3 v4 (fun x8_5 d8 => f_X9_read_L62 Λ p0 v1 v2 v3 v4 FU (0 : Int32) (0 : Int32) (0 : Int32) d8) FU (0 : Int32) d))
set_option maxHeartbeats 4000000 in
set_option maxRecDepth 100000 in
theorem w_X9_read_L26 {p : Program} {l : Launch} {e : Env} {s : State} {m : MethodId} {args : Array Value} {below : List Frame} {meth : Method} {c : Code} {Γ : Cx} {Λ : List Ly} {z : Int32 × Dt} (C0 : Ct Γ p s m args c cX9_read 11 "SeasonBoundModel") (hr : meth.sig.returnType = (some FieldType.int)) (hlocks : meth.locks = false) (k53 : Int32 → Dt → Option (Int32 × Dt)) (p0 : Nat) (v1 : Int32) (v2 : Int32) (v3 : Int32) (v4 : Int32)
    (hk53 : ∀ (v5 : Int32) (d : Dt), (k53 v5 d = some z) → ∀ (H : Heap) (locs : List Loc) (ls : Array Slot), Hs Γ Λ d s H locs → lv_has ls 11 [(0, .ref (ad Γ.2.2.1 p0)), (1, .int v1), (2, .int v2), (3, .int v3), (4, .int v4), (5, .int v5)] → W p l e { frames := 3, cells := 0, slots := 0, locals := 71 } s m args below meth c H locs 0 0 (MQ below (QN Γ Λ z.2 (some (.int z.1))) args s 0 0 (AP Γ)) (F0 m 53 ls [])) :
    ∀ (n : Nat) (v5 : Int32) (d : Dt), f_X9_read_L26 Λ p0 v1 v2 v3 v4 k53 n v5 d = some z → ∀ (H : Heap) (locs : List Loc) (ls : Array Slot), Hs Γ Λ d s H locs → lv_has ls 11 [(0, .ref (ad Γ.2.2.1 p0)), (1, .int v1), (2, .int v2), (3, .int v3), (4, .int v4), (5, .int v5)] → W p l e { frames := 3, cells := 0, slots := 0, locals := 71 } s m args below meth c H locs 0 0 (MQ below (QN Γ Λ z.2 (some (.int z.1))) args s 0 0 (AP Γ)) (F0 m 26 ls []) := by
  obtain ⟨hx, hb, hml, hown, hts, hK⟩ := id C0
  intro n
  induction n with
  | zero =>
    intro v5 d hf
    cases hf
  | succ n ih =>
    intro v5 d hf H locs ls hH hl
    unfold f_X9_read_L26 at hf
    refine lv_iload hx hb dX9_read_26 (lv_at hl 5 rfl) ?_
    refine lv_bipush (v := (60 : Int32)) hx hb dX9_read_28 (by decide) ?_
    refine lv_icmp_ge (tgt := 53) hx hb dX9_read_30 (by decide) (fun c3 => ?_) (fun c3 => ?_)
    · replace hf := it hf c3
      exact hk53 v5 d hf _ _ _ hH (lv_sub hl [0, 1, 2, 3, 4, 5] rfl)
    · replace hf := ie hf c3
      refine lv_aload_n hx hb dX9_read_33 rfl (lv_at hl 0 rfl) ?_
      obtain ⟨q4, g4, hf⟩ := ob hf
      refine r_getr C0 hH fl_X9_41 g4 dX9_read_34 ?_
      refine lv_iload hx hb dX9_read_37 (lv_at hl 5 rfl) ?_
      refine lv_aload_n hx hb dX9_read_39 rfl (lv_at hl 0 rfl) ?_
      obtain ⟨q5, g5, hf⟩ := ob hf
      refine r_getr C0 hH fl_X9_7 g5 dX9_read_40 ?_
      refine lv_iload hx hb dX9_read_43 (lv_at hl 5 rfl) ?_
      obtain ⟨g6, hf⟩ := gd hf
      refine r_iald C0 hH g6 dX9_read_45 ?_
      obtain ⟨g7, hf⟩ := gd hf
      refine r_iast C0 hH g7 dX9_read_46 (fun H locs hH => ?_)
      refine lv_iinc (v := (v5 + (1 : Int32))) (lv' := [(5, .int (v5 + (1 : Int32))), (0, .ref (ad Γ.2.2.1 p0)), (1, .int v1), (2, .int v2), (3, .int v3), (4, .int v4)]) hx hb dX9_read_47 hl (k := 5) rfl (congrArg (fun w => v5 + w) (by decide)) (by decide) rfl (fun ls hl => ?_)
      refine lv_goto (tgt := 26) hx hb dX9_read_50 (by decide) ?_
      exact ih (v5 + (1 : Int32)) (pI d q4 (v5).toNatClampNeg (d.1 q5 (v5).toNatClampNeg)) hf _ _ _ hH (lv_sub hl [1, 2, 3, 4, 5, 0] rfl)
set_option maxHeartbeats 4000000 in
set_option maxRecDepth 100000 in
theorem w_X9_read_L77 {p : Program} {l : Launch} {e : Env} {s : State} {m : MethodId} {args : Array Value} {below : List Frame} {meth : Method} {c : Code} {Γ : Cx} {Λ : List Ly} {z : Int32 × Dt} {d : Dt} (C0 : Ct Γ p s m args c cX9_read 11 "SeasonBoundModel") (hr : meth.sig.returnType = (some FieldType.int)) (hlocks : meth.locks = false) (k164 : Int32 → Int32 → Option (Int32 × Dt)) (p0 : Nat) (v1 : Int32) (v2 : Int32) (v3 : Int32) (v4 : Int32) (v6 : Int32) (v7 : Int32)
    (hk164 : ∀ (v5 : Int32) (v8 : Int32), (k164 v5 v8 = some z) → ∀ (H : Heap) (locs : List Loc) (ls : Array Slot), Hs Γ Λ d s H locs → lv_has ls 11 [(0, .ref (ad Γ.2.2.1 p0)), (1, .int v1), (2, .int v2), (3, .int v3), (4, .int v4), (5, .int v5), (6, .int v6), (7, .int v7), (8, .int v8)] → W p l e { frames := 3, cells := 0, slots := 0, locals := 71 } s m args below meth c H locs 0 0 (MQ below (QN Γ Λ z.2 (some (.int z.1))) args s 0 0 (AP Γ)) (F0 m 164 ls [])) :
    ∀ (n : Nat) (v5 : Int32) (v8 : Int32), f_X9_read_L77 Λ d p0 v1 v2 v3 v4 v6 v7 k164 n v5 v8 = some z → ∀ (H : Heap) (locs : List Loc) (ls : Array Slot), Hs Γ Λ d s H locs → lv_has ls 11 [(0, .ref (ad Γ.2.2.1 p0)), (1, .int v1), (2, .int v2), (3, .int v3), (4, .int v4), (5, .int v5), (6, .int v6), (7, .int v7), (8, .int v8)] → W p l e { frames := 3, cells := 0, slots := 0, locals := 71 } s m args below meth c H locs 0 0 (MQ below (QN Γ Λ z.2 (some (.int z.1))) args s 0 0 (AP Γ)) (F0 m 77 ls []) := by
  obtain ⟨hx, hb, hml, hown, hts, hK⟩ := id C0
  intro n
  induction n with
  | zero =>
    intro v5 v8 hf
    cases hf
  | succ n ih =>
    intro v5 v8 hf H locs ls hH hl
    unfold f_X9_read_L77 at hf
    refine lv_iload hx hb dX9_read_77 (lv_at hl 8 rfl) ?_
    refine lv_iconst (v := (3 : Int32)) hx hb dX9_read_79 (by decide) ?_
    refine lv_icmp_ge (tgt := 164) hx hb dX9_read_80 (by decide) (fun c13 => ?_) (fun c13 => ?_)
    · replace hf := it hf c13
      exact hk164 v5 v8 hf _ _ _ hH (lv_sub hl [0, 1, 2, 3, 4, 5, 6, 7, 8] rfl)
    · replace hf := ie hf c13
      refine lv_iload hx hb dX9_read_83 (lv_at hl 5 rfl) ?_
      refine lv_if_ne (tgt := 164) hx hb dX9_read_85 (by decide) (fun c14 => ?_) (fun c14 => ?_)
      · replace hf := ie hf c14
        exact hk164 v5 v8 hf _ _ _ hH (lv_sub hl [0, 1, 2, 3, 4, 5, 6, 7, 8] rfl)
      · replace hf := it hf c14
        refine lv_iload_n hx hb dX9_read_88 rfl (lv_at hl 3 rfl) ?_
        refine lv_i2l (v := (v3).toInt64) hx hb dX9_read_89 rfl ?_
        refine lv_iconst (v := (3 : Int32)) hx hb dX9_read_90 (by decide) ?_
        refine lv_iload hx hb dX9_read_91 (lv_at hl 7 rfl) ?_
        refine lv_imul hx hb dX9_read_93 ?_
        refine lv_i2l (v := (((3 : Int32) * v7)).toInt64) hx hb dX9_read_94 rfl ?_
        refine lv_ladd hx hb dX9_read_95 ?_
        refine lv_iload hx hb dX9_read_96 (lv_at hl 8 rfl) ?_
        refine lv_i2l (v := (v8).toInt64) hx hb dX9_read_98 rfl ?_
        refine lv_ladd hx hb dX9_read_99 ?_
        refine lv_lstore (lv' := [(9, .long (((v3).toInt64 + (((3 : Int32) * v7)).toInt64) + (v8).toInt64)), (0, .ref (ad Γ.2.2.1 p0)), (1, .int v1), (2, .int v2), (3, .int v3), (4, .int v4), (5, .int v5), (6, .int v6), (7, .int v7), (8, .int v8)]) hx hb dX9_read_100 hl (by decide) rfl (fun ls hl => ?_)
        refine lv_aload_n hx hb dX9_read_102 rfl (lv_at hl 1 rfl) ?_
        obtain ⟨q15, g15, hf⟩ := ob hf
        refine r_getr C0 hH fl_X9_32 g15 dX9_read_103 ?_
        refine lv_iload_n hx hb dX9_read_106 rfl (lv_at hl 2 rfl) ?_
        obtain ⟨g16, hf⟩ := gd hf
        refine r_iald C0 hH g16 dX9_read_107 ?_
        refine lv_bipush (v := (-4 : Int32)) hx hb dX9_read_108 (by decide) ?_
        refine lv_icmp_ne (tgt := 117) hx hb dX9_read_110 (by decide) (fun c17 => ?_) (fun c17 => ?_)
        · replace hf := ie hf c17
          refine lv_aload_n hx hb dX9_read_117 rfl (lv_at hl 1 rfl) ?_
          refine r_getr C0 hH fl_X9_32 g15 dX9_read_118 ?_
          refine lv_iload_n hx hb dX9_read_121 rfl (lv_at hl 2 rfl) ?_
          refine r_iald C0 hH g16 dX9_read_122 ?_
          refine lv_iload_n hx hb dX9_read_123 rfl (lv_at hl 3 rfl) ?_
          refine lv_icmp_eq (tgt := 131) hx hb dX9_read_124 (by decide) (fun c18 => ?_) (fun c18 => ?_)
          · replace hf := it hf c18
            refine lv_lload hx hb dX9_read_131 (lv_at hl 0 rfl) ?_
            refine lv_lconst (v := (0 : Int64)) hx hb dX9_read_133 (by decide) ?_
            refine W.lcmp hx hb dX9_read_134 ?_
            refine lv_if_lt (tgt := 151) hx hb dX9_read_135 (by decide) (fun c19 => ?_) (fun c19 => ?_)
            · replace hf := it hf c19
              refine lv_iconst (v := (2 : Int32)) hx hb dX9_read_151 (by decide) ?_
              refine lv_goto (tgt := 156) hx hb dX9_read_152 (by decide) ?_
              refine lv_istore (lv' := [(5, .int (2 : Int32)), (9, .long (((v3).toInt64 + (((3 : Int32) * v7)).toInt64) + (v8).toInt64)), (0, .ref (ad Γ.2.2.1 p0)), (1, .int v1), (2, .int v2), (3, .int v3), (4, .int v4), (6, .int v6), (7, .int v7), (8, .int v8)]) hx hb dX9_read_156 hl (by decide) rfl (fun ls hl => ?_)
              refine lv_iinc (v := (v8 + (1 : Int32))) (lv' := [(8, .int (v8 + (1 : Int32))), (5, .int (2 : Int32)), (9, .long (((v3).toInt64 + (((3 : Int32) * v7)).toInt64) + (v8).toInt64)), (0, .ref (ad Γ.2.2.1 p0)), (1, .int v1), (2, .int v2), (3, .int v3), (4, .int v4), (6, .int v6), (7, .int v7)]) hx hb dX9_read_158 hl (k := 9) rfl (congrArg (fun w => v8 + w) (by decide)) (by decide) rfl (fun ls hl => ?_)
              refine lv_goto (tgt := 77) hx hb dX9_read_161 (by decide) ?_
              exact ih (2 : Int32) (v8 + (1 : Int32)) hf _ _ _ hH (lv_sub hl [3, 4, 5, 6, 7, 1, 8, 9, 0] rfl)
            · replace hf := ie hf c19
              refine lv_lload hx hb dX9_read_138 (lv_at hl 0 rfl) ?_
              refine lv_aload_n hx hb dX9_read_140 rfl (lv_at hl 1 rfl) ?_
              obtain ⟨q20, g20, hf⟩ := ob hf
              refine r_getr C0 hH fl_X9_35 g20 dX9_read_141 ?_
              refine lv_iload_n hx hb dX9_read_144 rfl (lv_at hl 2 rfl) ?_
              obtain ⟨g21, hf⟩ := gd hf
              refine r_iald C0 hH g21 dX9_read_145 ?_
              refine lv_i2l (v := ((d.1 q20 (v1).toNatClampNeg)).toInt64) hx hb dX9_read_146 rfl ?_
              refine W.lcmp hx hb dX9_read_147 ?_
              refine lv_if_lt (tgt := 155) hx hb dX9_read_148 (by decide) (fun c22 => ?_) (fun c22 => ?_)
              · replace hf := it hf c22
                refine lv_iconst (v := (0 : Int32)) hx hb dX9_read_155 (by decide) ?_
                refine lv_istore (lv' := [(5, .int (0 : Int32)), (9, .long (((v3).toInt64 + (((3 : Int32) * v7)).toInt64) + (v8).toInt64)), (0, .ref (ad Γ.2.2.1 p0)), (1, .int v1), (2, .int v2), (3, .int v3), (4, .int v4), (6, .int v6), (7, .int v7), (8, .int v8)]) hx hb dX9_read_156 hl (by decide) rfl (fun ls hl => ?_)
                refine lv_iinc (v := (v8 + (1 : Int32))) (lv' := [(8, .int (v8 + (1 : Int32))), (5, .int (0 : Int32)), (9, .long (((v3).toInt64 + (((3 : Int32) * v7)).toInt64) + (v8).toInt64)), (0, .ref (ad Γ.2.2.1 p0)), (1, .int v1), (2, .int v2), (3, .int v3), (4, .int v4), (6, .int v6), (7, .int v7)]) hx hb dX9_read_158 hl (k := 9) rfl (congrArg (fun w => v8 + w) (by decide)) (by decide) rfl (fun ls hl => ?_)
                refine lv_goto (tgt := 77) hx hb dX9_read_161 (by decide) ?_
                exact ih (0 : Int32) (v8 + (1 : Int32)) hf _ _ _ hH (lv_sub hl [3, 4, 5, 6, 7, 1, 8, 9, 0] rfl)
              · replace hf := ie hf c22
                refine lv_iconst (v := (2 : Int32)) hx hb dX9_read_151 (by decide) ?_
                refine lv_goto (tgt := 156) hx hb dX9_read_152 (by decide) ?_
                refine lv_istore (lv' := [(5, .int (2 : Int32)), (9, .long (((v3).toInt64 + (((3 : Int32) * v7)).toInt64) + (v8).toInt64)), (0, .ref (ad Γ.2.2.1 p0)), (1, .int v1), (2, .int v2), (3, .int v3), (4, .int v4), (6, .int v6), (7, .int v7), (8, .int v8)]) hx hb dX9_read_156 hl (by decide) rfl (fun ls hl => ?_)
                refine lv_iinc (v := (v8 + (1 : Int32))) (lv' := [(8, .int (v8 + (1 : Int32))), (5, .int (2 : Int32)), (9, .long (((v3).toInt64 + (((3 : Int32) * v7)).toInt64) + (v8).toInt64)), (0, .ref (ad Γ.2.2.1 p0)), (1, .int v1), (2, .int v2), (3, .int v3), (4, .int v4), (6, .int v6), (7, .int v7)]) hx hb dX9_read_158 hl (k := 9) rfl (congrArg (fun w => v8 + w) (by decide)) (by decide) rfl (fun ls hl => ?_)
                refine lv_goto (tgt := 77) hx hb dX9_read_161 (by decide) ?_
                exact ih (2 : Int32) (v8 + (1 : Int32)) hf _ _ _ hH (lv_sub hl [3, 4, 5, 6, 7, 1, 8, 9, 0] rfl)
          · replace hf := ie hf c18
            refine lv_iconst (v := (3 : Int32)) hx hb dX9_read_127 (by decide) ?_
            refine lv_goto (tgt := 156) hx hb dX9_read_128 (by decide) ?_
            refine lv_istore (lv' := [(5, .int (3 : Int32)), (9, .long (((v3).toInt64 + (((3 : Int32) * v7)).toInt64) + (v8).toInt64)), (0, .ref (ad Γ.2.2.1 p0)), (1, .int v1), (2, .int v2), (3, .int v3), (4, .int v4), (6, .int v6), (7, .int v7), (8, .int v8)]) hx hb dX9_read_156 hl (by decide) rfl (fun ls hl => ?_)
            refine lv_iinc (v := (v8 + (1 : Int32))) (lv' := [(8, .int (v8 + (1 : Int32))), (5, .int (3 : Int32)), (9, .long (((v3).toInt64 + (((3 : Int32) * v7)).toInt64) + (v8).toInt64)), (0, .ref (ad Γ.2.2.1 p0)), (1, .int v1), (2, .int v2), (3, .int v3), (4, .int v4), (6, .int v6), (7, .int v7)]) hx hb dX9_read_158 hl (k := 9) rfl (congrArg (fun w => v8 + w) (by decide)) (by decide) rfl (fun ls hl => ?_)
            refine lv_goto (tgt := 77) hx hb dX9_read_161 (by decide) ?_
            exact ih (3 : Int32) (v8 + (1 : Int32)) hf _ _ _ hH (lv_sub hl [3, 4, 5, 6, 7, 1, 8, 9, 0] rfl)
        · replace hf := it hf c17
          refine lv_iconst (v := (1 : Int32)) hx hb dX9_read_113 (by decide) ?_
          refine lv_goto (tgt := 156) hx hb dX9_read_114 (by decide) ?_
          refine lv_istore (lv' := [(5, .int (1 : Int32)), (9, .long (((v3).toInt64 + (((3 : Int32) * v7)).toInt64) + (v8).toInt64)), (0, .ref (ad Γ.2.2.1 p0)), (1, .int v1), (2, .int v2), (3, .int v3), (4, .int v4), (6, .int v6), (7, .int v7), (8, .int v8)]) hx hb dX9_read_156 hl (by decide) rfl (fun ls hl => ?_)
          refine lv_iinc (v := (v8 + (1 : Int32))) (lv' := [(8, .int (v8 + (1 : Int32))), (5, .int (1 : Int32)), (9, .long (((v3).toInt64 + (((3 : Int32) * v7)).toInt64) + (v8).toInt64)), (0, .ref (ad Γ.2.2.1 p0)), (1, .int v1), (2, .int v2), (3, .int v3), (4, .int v4), (6, .int v6), (7, .int v7)]) hx hb dX9_read_158 hl (k := 9) rfl (congrArg (fun w => v8 + w) (by decide)) (by decide) rfl (fun ls hl => ?_)
          refine lv_goto (tgt := 77) hx hb dX9_read_161 (by decide) ?_
          exact ih (1 : Int32) (v8 + (1 : Int32)) hf _ _ _ hH (lv_sub hl [3, 4, 5, 6, 7, 1, 8, 9, 0] rfl)
set_option maxHeartbeats 4000000 in
set_option maxRecDepth 100000 in
theorem w_X9_read_L217 {p : Program} {l : Launch} {e : Env} {s : State} {m : MethodId} {args : Array Value} {below : List Frame} {meth : Method} {c : Code} {Γ : Cx} {Λ : List Ly} {z : Int32 × Dt} (C0 : Ct Γ p s m args c cX9_read 11 "SeasonBoundModel") (hr : meth.sig.returnType = (some FieldType.int)) (hlocks : meth.locks = false) (p0 : Nat) (v7 : Int32) :
    ∀ (n : Nat) (v9 : Int32) (d : Dt), f_X9_read_L217 Λ p0 v7 n v9 d = some z → ∀ (H : Heap) (locs : List Loc) (ls : Array Slot), Hs Γ Λ d s H locs → lv_has ls 11 [(0, .ref (ad Γ.2.2.1 p0)), (7, .int v7), (9, .int v9)] → W p l e { frames := 3, cells := 0, slots := 0, locals := 71 } s m args below meth c H locs 0 0 (MQ below (QN Γ Λ z.2 (some (.int z.1))) args s 0 0 (AP Γ)) (F0 m 217 ls []) := by
  obtain ⟨hx, hb, hml, hown, hts, hK⟩ := id C0
  intro n
  induction n with
  | zero =>
    intro v9 d hf
    cases hf
  | succ n ih =>
    intro v9 d hf H locs ls hH hl
    unfold f_X9_read_L217 at hf
    refine lv_iload hx hb dX9_read_217 (lv_at hl 2 rfl) ?_
    refine lv_bipush (v := (60 : Int32)) hx hb dX9_read_219 (by decide) ?_
    refine lv_icmp_ge (tgt := 244) hx hb dX9_read_221 (by decide) (fun c32 => ?_) (fun c32 => ?_)
    · replace hf := it hf c32
      refine lv_bipush (v := (-20 : Int32)) hx hb dX9_read_244 (by decide) ?_
      refine lv_iload hx hb dX9_read_246 (lv_at hl 1 rfl) ?_
      refine lv_isub hx hb dX9_read_248 ?_
      obtain rfl := Option.some.inj hf
      exact r_iret (d' := d) C0 hr hlocks hH rfl dX9_read_249
    · replace hf := ie hf c32
      refine lv_aload_n hx hb dX9_read_224 rfl (lv_at hl 0 rfl) ?_
      obtain ⟨q33, g33, hf⟩ := ob hf
      refine r_getr C0 hH fl_X9_7 g33 dX9_read_225 ?_
      refine lv_iload hx hb dX9_read_228 (lv_at hl 2 rfl) ?_
      refine lv_aload_n hx hb dX9_read_230 rfl (lv_at hl 0 rfl) ?_
      obtain ⟨q34, g34, hf⟩ := ob hf
      refine r_getr C0 hH fl_X9_41 g34 dX9_read_231 ?_
      refine lv_iload hx hb dX9_read_234 (lv_at hl 2 rfl) ?_
      obtain ⟨g35, hf⟩ := gd hf
      refine r_iald C0 hH g35 dX9_read_236 ?_
      obtain ⟨g36, hf⟩ := gd hf
      refine r_iast C0 hH g36 dX9_read_237 (fun H locs hH => ?_)
      refine lv_iinc (v := (v9 + (1 : Int32))) (lv' := [(9, .int (v9 + (1 : Int32))), (0, .ref (ad Γ.2.2.1 p0)), (7, .int v7)]) hx hb dX9_read_238 hl (k := 2) rfl (congrArg (fun w => v9 + w) (by decide)) (by decide) rfl (fun ls hl => ?_)
      refine lv_goto (tgt := 217) hx hb dX9_read_241 (by decide) ?_
      exact ih (v9 + (1 : Int32)) (pI d q33 (v9).toNatClampNeg (d.1 q34 (v9).toNatClampNeg)) hf _ _ _ hH (lv_sub hl [1, 2, 0] rfl)
set_option maxHeartbeats 4000000 in
set_option maxRecDepth 100000 in
theorem w_X9_read_J164 {p : Program} {l : Launch} {e : Env} {s : State} {m : MethodId} {args : Array Value} {below : List Frame} {meth : Method} {c : Code} {Γ : Cx} {Λ : List Ly} {z : Int32 × Dt} {d : Dt} (C0 : Ct Γ p s m args c cX9_read 11 "SeasonBoundModel") (hr : meth.sig.returnType = (some FieldType.int)) (hlocks : meth.locks = false) (kb : Int32 → Int32 → Int32 → Dt → Option (Int32 × Dt)) (p0 : Nat) (v1 : Int32) (v2 : Int32) (v3 : Int32) (v4 : Int32) (v5 : Int32) (v6 : Int32) (v7 : Int32)
    (hkb : ∀ (w0 : Int32) (w1 : Int32) (w2 : Int32) (d : Dt), (kb w0 w1 w2 d = some z) → ∀ (H : Heap) (locs : List Loc) (ls : Array Slot), Hs Γ Λ d s H locs → lv_has ls 11 [(0, .ref (ad Γ.2.2.1 p0)), (1, .int v1), (2, .int v2), (3, .int v3), (4, .int v4), (5, .int w0), (6, .int w1), (7, .int w2)] → W p l e { frames := 3, cells := 0, slots := 0, locals := 71 } s m args below meth c H locs 0 0 (MQ below (QN Γ Λ z.2 (some (.int z.1))) args s 0 0 (AP Γ)) (F0 m 62 ls []))
    (hf : f_X9_read_J164 Λ d kb p0 v1 v2 v3 v4 v5 v6 v7 = some z) (H : Heap) (locs : List Loc) (ls : Array Slot) (hH : Hs Γ Λ d s H locs) (hl : lv_has ls 11 [(0, .ref (ad Γ.2.2.1 p0)), (1, .int v1), (2, .int v2), (3, .int v3), (4, .int v4), (5, .int v5), (6, .int v6), (7, .int v7)]) : W p l e { frames := 3, cells := 0, slots := 0, locals := 71 } s m args below meth c H locs 0 0 (MQ below (QN Γ Λ z.2 (some (.int z.1))) args s 0 0 (AP Γ)) (F0 m 164 ls []) := by
  obtain ⟨hx, hb, hml, hown, hts, hK⟩ := id C0
  unfold f_X9_read_J164 at hf
  refine lv_iload hx hb dX9_read_164 (lv_at hl 5 rfl) ?_
  refine lv_if_ne (tgt := 253) hx hb dX9_read_166 (by decide) (fun c24 => ?_) (fun c24 => ?_)
  · replace hf := ie hf c24
    refine lv_iinc (v := (v7 + (1 : Int32))) (lv' := [(7, .int (v7 + (1 : Int32))), (0, .ref (ad Γ.2.2.1 p0)), (1, .int v1), (2, .int v2), (3, .int v3), (4, .int v4), (5, .int v5), (6, .int v6)]) hx hb dX9_read_253 hl (k := 7) rfl (congrArg (fun w => v7 + w) (by decide)) (by decide) rfl (fun ls hl => ?_)
    refine lv_goto (tgt := 62) hx hb dX9_read_256 (by decide) ?_
    exact hkb v5 v6 (v7 + (1 : Int32)) d hf _ _ _ hH (lv_sub hl [1, 2, 3, 4, 5, 6, 7, 0] rfl)
  · replace hf := it hf c24
    refine lv_bipush (v := (40 : Int32)) hx hb dX9_read_169 (by decide) ?_
    refine lv_iload_n hx hb dX9_read_171 rfl (lv_at hl 1 rfl) ?_
    refine lv_imul hx hb dX9_read_172 ?_
    refine lv_iload_n hx hb dX9_read_173 rfl (lv_at hl 3 rfl) ?_
    refine lv_iadd hx hb dX9_read_174 ?_
    refine lv_iconst (v := (3 : Int32)) hx hb dX9_read_175 (by decide) ?_
    refine lv_iload hx hb dX9_read_176 (lv_at hl 7 rfl) ?_
    refine lv_imul hx hb dX9_read_178 ?_
    refine lv_iadd hx hb dX9_read_179 ?_
    refine lv_istore (lv' := [(8, .int ((((40 : Int32) * v1) + v3) + ((3 : Int32) * v7))), (0, .ref (ad Γ.2.2.1 p0)), (1, .int v1), (2, .int v2), (3, .int v3), (4, .int v4), (5, .int v5), (6, .int v6), (7, .int v7)]) hx hb dX9_read_180 hl (by decide) rfl (fun ls hl => ?_)
    refine lv_aload_n hx hb dX9_read_182 rfl (lv_at hl 1 rfl) ?_
    refine lv_aload_n hx hb dX9_read_183 rfl (lv_at hl 1 rfl) ?_
    obtain ⟨q25, g25, hf⟩ := ob hf
    refine r_getr C0 hH fl_X9_38 g25 dX9_read_184 ?_
    refine lv_iload hx hb dX9_read_187 (lv_at hl 0 rfl) ?_
    obtain ⟨g26, hf⟩ := gd hf
    refine r_iald C0 hH g26 dX9_read_189 ?_
    refine lv_aload_n hx hb dX9_read_190 rfl (lv_at hl 1 rfl) ?_
    refine r_getr C0 hH fl_X9_38 g25 dX9_read_191 ?_
    refine lv_iload hx hb dX9_read_194 (lv_at hl 0 rfl) ?_
    refine lv_iconst (v := (1 : Int32)) hx hb dX9_read_196 (by decide) ?_
    refine lv_iadd hx hb dX9_read_197 ?_
    obtain ⟨g27, hf⟩ := gd hf
    refine r_iald C0 hH g27 dX9_read_198 ?_
    refine lv_aload_n hx hb dX9_read_199 rfl (lv_at hl 1 rfl) ?_
    refine r_getr C0 hH fl_X9_38 g25 dX9_read_200 ?_
    refine lv_iload hx hb dX9_read_203 (lv_at hl 0 rfl) ?_
    refine lv_iconst (v := (2 : Int32)) hx hb dX9_read_205 (by decide) ?_
    refine lv_iadd hx hb dX9_read_206 ?_
    obtain ⟨g28, hf⟩ := gd hf
    refine r_iald C0 hH g28 dX9_read_207 ?_
    obtain ⟨g29, hf⟩ := gd hf
    obtain ⟨z30, h30, hf⟩ := ob hf
    refine r_callVi (rest := []) C0 hH (c_X9_bind Γ l Λ d p0 (d.1 q25 (((((40 : Int32) * v1) + v3) + ((3 : Int32) * v7))).toNatClampNeg) (d.1 q25 ((((((40 : Int32) * v1) + v3) + ((3 : Int32) * v7)) + (1 : Int32))).toNatClampNeg) (d.1 q25 ((((((40 : Int32) * v1) + v3) + ((3 : Int32) * v7)) + (2 : Int32))).toNatClampNeg) z30 h30) cv_X9_284 g29 (by decide) rfl hl.1 rfl (Nat.le_of_ble_eq_true rfl) dX9_read_208 (by decide) (fun H locs hH => ?_)
    refine lv_if_ge (tgt := 250) hx hb dX9_read_211 (by decide) (fun c31 => ?_) (fun c31 => ?_)
    · replace hf := it hf c31
      refine lv_iinc (v := (v6 + (1 : Int32))) (lv' := [(6, .int (v6 + (1 : Int32))), (8, .int ((((40 : Int32) * v1) + v3) + ((3 : Int32) * v7))), (0, .ref (ad Γ.2.2.1 p0)), (1, .int v1), (2, .int v2), (3, .int v3), (4, .int v4), (5, .int v5), (7, .int v7)]) hx hb dX9_read_250 hl (k := 7) rfl (congrArg (fun w => v6 + w) (by decide)) (by decide) rfl (fun ls hl => ?_)
      refine lv_iinc (v := (v7 + (1 : Int32))) (lv' := [(7, .int (v7 + (1 : Int32))), (6, .int (v6 + (1 : Int32))), (8, .int ((((40 : Int32) * v1) + v3) + ((3 : Int32) * v7))), (0, .ref (ad Γ.2.2.1 p0)), (1, .int v1), (2, .int v2), (3, .int v3), (4, .int v4), (5, .int v5)]) hx hb dX9_read_253 hl (k := 8) rfl (congrArg (fun w => v7 + w) (by decide)) (by decide) rfl (fun ls hl => ?_)
      refine lv_goto (tgt := 62) hx hb dX9_read_256 (by decide) ?_
      exact hkb v5 (v6 + (1 : Int32)) (v7 + (1 : Int32)) z30.2 hf _ _ _ hH (lv_sub hl [3, 4, 5, 6, 7, 8, 1, 0] rfl)
    · replace hf := ie hf c31
      refine lv_iconst (v := (0 : Int32)) hx hb dX9_read_214 (by decide) ?_
      refine lv_istore (lv' := [(9, .int (0 : Int32)), (8, .int ((((40 : Int32) * v1) + v3) + ((3 : Int32) * v7))), (0, .ref (ad Γ.2.2.1 p0)), (1, .int v1), (2, .int v2), (3, .int v3), (4, .int v4), (5, .int v5), (6, .int v6), (7, .int v7)]) hx hb dX9_read_215 hl (by decide) rfl (fun ls hl => ?_)
      refine w_X9_read_L217 C0 hr hlocks p0 v7 FU (0 : Int32) z30.2 hf _ _ _ hH (lv_sub hl [2, 9, 0] rfl)
set_option maxHeartbeats 4000000 in
set_option maxRecDepth 100000 in
theorem w_X9_read_L62 {p : Program} {l : Launch} {e : Env} {s : State} {m : MethodId} {args : Array Value} {below : List Frame} {meth : Method} {c : Code} {Γ : Cx} {Λ : List Ly} {z : Int32 × Dt} (C0 : Ct Γ p s m args c cX9_read 11 "SeasonBoundModel") (hr : meth.sig.returnType = (some FieldType.int)) (hlocks : meth.locks = false) (p0 : Nat) (v1 : Int32) (v2 : Int32) (v3 : Int32) (v4 : Int32) :
    ∀ (n : Nat) (v5 : Int32) (v6 : Int32) (v7 : Int32) (d : Dt), f_X9_read_L62 Λ p0 v1 v2 v3 v4 n v5 v6 v7 d = some z → ∀ (H : Heap) (locs : List Loc) (ls : Array Slot), Hs Γ Λ d s H locs → lv_has ls 11 [(0, .ref (ad Γ.2.2.1 p0)), (1, .int v1), (2, .int v2), (3, .int v3), (4, .int v4), (5, .int v5), (6, .int v6), (7, .int v7)] → W p l e { frames := 3, cells := 0, slots := 0, locals := 71 } s m args below meth c H locs 0 0 (MQ below (QN Γ Λ z.2 (some (.int z.1))) args s 0 0 (AP Γ)) (F0 m 62 ls []) := by
  obtain ⟨hx, hb, hml, hown, hts, hK⟩ := id C0
  intro n
  induction n with
  | zero =>
    intro v5 v6 v7 d hf
    cases hf
  | succ n ih =>
    intro v5 v6 v7 d hf H locs ls hH hl
    unfold f_X9_read_L62 at hf
    refine lv_iload hx hb dX9_read_62 (lv_at hl 7 rfl) ?_
    refine lv_iload hx hb dX9_read_64 (lv_at hl 4 rfl) ?_
    refine lv_icmp_ge (tgt := 259) hx hb dX9_read_66 (by decide) (fun c9 => ?_) (fun c9 => ?_)
    · replace hf := it hf c9
      refine lv_aload_n hx hb dX9_read_259 rfl (lv_at hl 0 rfl) ?_
      refine lv_iload hx hb dX9_read_260 (lv_at hl 5 rfl) ?_
      obtain ⟨g10, hf⟩ := gd hf
      refine r_puti C0 hH fw_X9_288 g10 rfl dX9_read_262 (fun H locs hH => ?_)
      refine lv_iload hx hb dX9_read_265 (lv_at hl 6 rfl) ?_
      obtain rfl := Option.some.inj hf
      exact r_iret (d' := d) C0 hr hlocks hH rfl dX9_read_267
    · replace hf := ie hf c9
      refine lv_iload hx hb dX9_read_69 (lv_at hl 5 rfl) ?_
      refine lv_if_ne (tgt := 259) hx hb dX9_read_71 (by decide) (fun c11 => ?_) (fun c11 => ?_)
      · replace hf := ie hf c11
        refine lv_aload_n hx hb dX9_read_259 rfl (lv_at hl 0 rfl) ?_
        refine lv_iload hx hb dX9_read_260 (lv_at hl 5 rfl) ?_
        obtain ⟨g12, hf⟩ := gd hf
        refine r_puti C0 hH fw_X9_288 g12 rfl dX9_read_262 (fun H locs hH => ?_)
        refine lv_iload hx hb dX9_read_265 (lv_at hl 6 rfl) ?_
        obtain rfl := Option.some.inj hf
        exact r_iret (d' := d) C0 hr hlocks hH rfl dX9_read_267
      · replace hf := it hf c11
        refine lv_iconst (v := (0 : Int32)) hx hb dX9_read_74 (by decide) ?_
        refine lv_istore (lv' := [(8, .int (0 : Int32)), (0, .ref (ad Γ.2.2.1 p0)), (1, .int v1), (2, .int v2), (3, .int v3), (4, .int v4), (5, .int v5), (6, .int v6), (7, .int v7)]) hx hb dX9_read_75 hl (by decide) rfl (fun ls hl => ?_)
        refine w_X9_read_L77 C0 hr hlocks _ p0 v1 v2 v3 v4 v6 v7 ?k164 FU v5 (0 : Int32) hf _ _ _ hH (lv_sub hl [1, 2, 3, 4, 5, 6, 7, 8, 0] rfl)
        case k164 =>
          intro x23_5 x23_8 hf H locs ls hH hl
          exact w_X9_read_J164 C0 hr hlocks _ p0 v1 v2 v3 v4 x23_5 v6 v7 ih hf _ _ _ hH (lv_sub hl [0, 1, 2, 3, 4, 5, 6, 7] rfl)
set_option maxHeartbeats 4000000 in
set_option maxRecDepth 100000 in
theorem c_X9_read (Γ : Cx) (l : Launch) (Λ : List Ly) (d : Dt) (p0 : Nat) (v1 : Int32) (v2 : Int32) (v3 : Int32) (v4 : Int32) (z : Int32 × Dt) (hf : f_X9_read Λ d p0 v1 v2 v3 v4 = some z) : Cn Γ l yX9_read cX9_read 11 (some FieldType.int) 3 71 [.ref (ad Γ.2.2.1 p0), .int v1, .int v2, .int v3, .int v4] Λ d (some (.int z.1)) z.2 := by
  refine Cn.of (own := "SeasonBoundModel") (by decide +kernel) rfl (Nat.le_of_ble_eq_true rfl) ?_
  intro p e s m below meth c C0 hr hlocks hH ls hl
  have hl : lv_has ls 11 [(0, .ref (ad Γ.2.2.1 p0)), (1, .int v1), (2, .int v2), (3, .int v3), (4, .int v4)] := hl
  obtain ⟨hx, hb, hml, hown, hts, hK⟩ := id C0
  unfold f_X9_read at hf
  refine lv_iload_n hx hb dX9_read_0 rfl (lv_at hl 1 rfl) ?_
  refine lv_iload_n hx hb dX9_read_1 rfl (lv_at hl 2 rfl) ?_
  refine r_callSi (rest := []) C0 hH (c_X9_isSheet Γ l Λ d v1 v2) cs_X9_279 (by decide) rfl hl.1 rfl (Nat.le_of_ble_eq_true rfl) dX9_read_2 (by decide) (fun H locs hH => ?_)
  refine lv_if_eq (tgt := 21) hx hb dX9_read_5 (by decide) (fun c1 => ?_) (fun c1 => ?_)
  · replace hf := it hf c1
    refine lv_iconst (v := (-1 : Int32)) hx hb dX9_read_21 (by decide) ?_
    obtain rfl := Option.some.inj hf
    exact r_iret (d' := d) C0 hr hlocks hH rfl dX9_read_22
  · replace hf := ie hf c1
    refine lv_iload hx hb dX9_read_8 (lv_at hl 4 rfl) ?_
    refine lv_i2l (v := (v4).toInt64) hx hb dX9_read_10 rfl ?_
    refine lv_lconst (v := (0 : Int64)) hx hb dX9_read_11 (by decide) ?_
    refine lv_ldc2 hx hb hown (hts _ kl_X9_282) dX9_read_12 ?_
    refine r_callSi (rest := []) C0 hH (c_X9_in Γ l Λ d (v4).toInt64 (0 : Int64) (13 : Int64)) cs_X9_56 (by decide) rfl hl.1 rfl (Nat.le_of_ble_eq_true rfl) dX9_read_15 (by decide) (fun H locs hH => ?_)
    refine lv_if_ne (tgt := 23) hx hb dX9_read_18 (by decide) (fun c2 => ?_) (fun c2 => ?_)
    · replace hf := ie hf c2
      refine lv_iconst (v := (0 : Int32)) hx hb dX9_read_23 (by decide) ?_
      refine lv_istore (lv' := [(5, .int (0 : Int32)), (0, .ref (ad Γ.2.2.1 p0)), (1, .int v1), (2, .int v2), (3, .int v3), (4, .int v4)]) hx hb dX9_read_24 hl (by decide) rfl (fun ls hl => ?_)
      refine w_X9_read_L26 C0 hr hlocks _ p0 v1 v2 v3 v4 ?k53 FU (0 : Int32) d hf _ _ _ hH (lv_sub hl [1, 2, 3, 4, 5, 0] rfl)
      case k53 =>
        intro x8_5 d8 hf H locs ls hH hl
        refine lv_iconst (v := (0 : Int32)) hx hb dX9_read_53 (by decide) ?_
        refine lv_istore (lv' := [(5, .int (0 : Int32)), (0, .ref (ad Γ.2.2.1 p0)), (1, .int v1), (2, .int v2), (3, .int v3), (4, .int v4)]) hx hb dX9_read_54 hl (by decide) rfl (fun ls hl => ?_)
        refine lv_iconst (v := (0 : Int32)) hx hb dX9_read_56 (by decide) ?_
        refine lv_istore (lv' := [(6, .int (0 : Int32)), (5, .int (0 : Int32)), (0, .ref (ad Γ.2.2.1 p0)), (1, .int v1), (2, .int v2), (3, .int v3), (4, .int v4)]) hx hb dX9_read_57 hl (by decide) rfl (fun ls hl => ?_)
        refine lv_iconst (v := (0 : Int32)) hx hb dX9_read_59 (by decide) ?_
        refine lv_istore (lv' := [(7, .int (0 : Int32)), (6, .int (0 : Int32)), (5, .int (0 : Int32)), (0, .ref (ad Γ.2.2.1 p0)), (1, .int v1), (2, .int v2), (3, .int v3), (4, .int v4)]) hx hb dX9_read_60 hl (by decide) rfl (fun ls hl => ?_)
        refine w_X9_read_L62 C0 hr hlocks p0 v1 v2 v3 v4 FU (0 : Int32) (0 : Int32) (0 : Int32) d8 hf _ _ _ hH (lv_sub hl [3, 4, 5, 6, 7, 2, 1, 0] rfl)
    · replace hf := it hf c2
      refine lv_iconst (v := (-1 : Int32)) hx hb dX9_read_21 (by decide) ?_
      obtain rfl := Option.some.inj hf
      exact r_iret (d' := d) C0 hr hlocks hH rfl dX9_read_22
theorem dX9_torn_0 : decode cX9_torn 0 = .ok (.aload_n 0, 1) := by decide +kernel
theorem dX9_torn_1 : decode cX9_torn 1 = .ok (.getfield 288, 3) := by decide +kernel
theorem dX9_torn_4 : decode cX9_torn 4 = .ok (.ireturn, 1) := by decide +kernel
def f_X9_torn (Λ : List Ly) (d : Dt) (p0 : Nat) : Option Int32 := if clsAt Λ p0 = some 9 then (some (d.1 p0 23)) else none
set_option maxHeartbeats 4000000 in
set_option maxRecDepth 100000 in
theorem c_X9_torn (Γ : Cx) (l : Launch) (Λ : List Ly) (d : Dt) (p0 : Nat) (z : Int32) (hf : f_X9_torn Λ d p0 = some z) : Cn Γ l yX9_torn cX9_torn 1 (some FieldType.int) 0 0 [.ref (ad Γ.2.2.1 p0)] Λ d (some (.int z)) d := by
  refine Cn.of (own := "SeasonBoundModel") (by decide +kernel) rfl (Nat.le_of_ble_eq_true rfl) ?_
  intro p e s m below meth c C0 hr hlocks hH ls hl
  have hl : lv_has ls 1 [(0, .ref (ad Γ.2.2.1 p0))] := hl
  obtain ⟨hx, hb, hml, hown, hts, hK⟩ := id C0
  unfold f_X9_torn at hf
  refine lv_aload_n hx hb dX9_torn_0 rfl (lv_at hl 0 rfl) ?_
  obtain ⟨g1, hf⟩ := gd hf
  refine r_geti C0 hH fl_X9_288 g1 rfl dX9_torn_1 ?_
  obtain rfl := Option.some.inj hf
  exact r_iret (d' := d) C0 hr hlocks hH rfl dX9_torn_4
theorem dX9_count_0 : decode cX9_count 0 = .ok (.aload_n 0, 1) := by decide +kernel
theorem dX9_count_1 : decode cX9_count 1 = .ok (.invokevirtual 177, 3) := by decide +kernel
theorem dX9_count_4 : decode cX9_count 4 = .ok (.iconst 0, 1) := by decide +kernel
theorem dX9_count_5 : decode cX9_count 5 = .ok (.istore_n 2, 1) := by decide +kernel
theorem dX9_count_6 : decode cX9_count 6 = .ok (.iconst 0, 1) := by decide +kernel
theorem dX9_count_7 : decode cX9_count 7 = .ok (.istore_n 3, 1) := by decide +kernel
theorem dX9_count_8 : decode cX9_count 8 = .ok (.iload_n 3, 1) := by decide +kernel
theorem dX9_count_9 : decode cX9_count 9 = .ok (.iconst 4, 1) := by decide +kernel
theorem dX9_count_10 : decode cX9_count 10 = .ok (.if_icmp .ge 22, 3) := by decide +kernel
theorem dX9_count_13 : decode cX9_count 13 = .ok (.iload_n 2, 1) := by decide +kernel
theorem dX9_count_14 : decode cX9_count 14 = .ok (.aload_n 0, 1) := by decide +kernel
theorem dX9_count_15 : decode cX9_count 15 = .ok (.getfield 13, 3) := by decide +kernel
theorem dX9_count_18 : decode cX9_count 18 = .ok (.iconst 3, 1) := by decide +kernel
theorem dX9_count_19 : decode cX9_count 19 = .ok (.iload_n 3, 1) := by decide +kernel
theorem dX9_count_20 : decode cX9_count 20 = .ok (.imul, 1) := by decide +kernel
theorem dX9_count_21 : decode cX9_count 21 = .ok (.iconst 0, 1) := by decide +kernel
theorem dX9_count_22 : decode cX9_count 22 = .ok (.iadd, 1) := by decide +kernel
theorem dX9_count_23 : decode cX9_count 23 = .ok (.iaload, 1) := by decide +kernel
theorem dX9_count_24 : decode cX9_count 24 = .ok (.iadd, 1) := by decide +kernel
theorem dX9_count_25 : decode cX9_count 25 = .ok (.istore_n 2, 1) := by decide +kernel
theorem dX9_count_26 : decode cX9_count 26 = .ok (.iinc 3 1, 3) := by decide +kernel
theorem dX9_count_29 : decode cX9_count 29 = .ok (.goto (-21), 3) := by decide +kernel
theorem dX9_count_32 : decode cX9_count 32 = .ok (.iload_n 1, 1) := by decide +kernel
theorem dX9_count_33 : decode cX9_count 33 = .ok (.tableswitch 103 0 5 #[39, 47, 67, 72, 95, 97], 39) := by decide +kernel
theorem dX9_count_72 : decode cX9_count 72 = .ok (.aload_n 0, 1) := by decide +kernel
theorem dX9_count_73 : decode cX9_count 73 = .ok (.getfield 7, 3) := by decide +kernel
theorem dX9_count_76 : decode cX9_count 76 = .ok (.bipush 41, 2) := by decide +kernel
theorem dX9_count_78 : decode cX9_count 78 = .ok (.iaload, 1) := by decide +kernel
theorem dX9_count_79 : decode cX9_count 79 = .ok (.ireturn, 1) := by decide +kernel
theorem dX9_count_80 : decode cX9_count 80 = .ok (.aload_n 0, 1) := by decide +kernel
theorem dX9_count_81 : decode cX9_count 81 = .ok (.getfield 16, 3) := by decide +kernel
theorem dX9_count_84 : decode cX9_count 84 = .ok (.iconst 0, 1) := by decide +kernel
theorem dX9_count_85 : decode cX9_count 85 = .ok (.baload, 1) := by decide +kernel
theorem dX9_count_86 : decode cX9_count 86 = .ok (.invokestatic 146, 3) := by decide +kernel
theorem dX9_count_89 : decode cX9_count 89 = .ok (.aload_n 0, 1) := by decide +kernel
theorem dX9_count_90 : decode cX9_count 90 = .ok (.getfield 16, 3) := by decide +kernel
theorem dX9_count_93 : decode cX9_count 93 = .ok (.iconst 1, 1) := by decide +kernel
theorem dX9_count_94 : decode cX9_count 94 = .ok (.baload, 1) := by decide +kernel
theorem dX9_count_95 : decode cX9_count 95 = .ok (.invokestatic 146, 3) := by decide +kernel
theorem dX9_count_98 : decode cX9_count 98 = .ok (.iadd, 1) := by decide +kernel
theorem dX9_count_99 : decode cX9_count 99 = .ok (.ireturn, 1) := by decide +kernel
theorem dX9_count_100 : decode cX9_count 100 = .ok (.aload_n 0, 1) := by decide +kernel
theorem dX9_count_101 : decode cX9_count 101 = .ok (.getfield 60, 3) := by decide +kernel
theorem dX9_count_104 : decode cX9_count 104 = .ok (.ireturn, 1) := by decide +kernel
theorem dX9_count_105 : decode cX9_count 105 = .ok (.aload_n 0, 1) := by decide +kernel
theorem dX9_count_106 : decode cX9_count 106 = .ok (.getfield 32, 3) := by decide +kernel
theorem dX9_count_109 : decode cX9_count 109 = .ok (.iconst 0, 1) := by decide +kernel
theorem dX9_count_110 : decode cX9_count 110 = .ok (.iaload, 1) := by decide +kernel
theorem dX9_count_111 : decode cX9_count 111 = .ok (.bipush (-4), 2) := by decide +kernel
theorem dX9_count_113 : decode cX9_count 113 = .ok (.if_icmp .ne 8, 3) := by decide +kernel
theorem dX9_count_116 : decode cX9_count 116 = .ok (.bipush (-4), 2) := by decide +kernel
theorem dX9_count_118 : decode cX9_count 118 = .ok (.goto 9, 3) := by decide +kernel
theorem dX9_count_121 : decode cX9_count 121 = .ok (.aload_n 0, 1) := by decide +kernel
theorem dX9_count_122 : decode cX9_count 122 = .ok (.getfield 35, 3) := by decide +kernel
theorem dX9_count_125 : decode cX9_count 125 = .ok (.iconst 0, 1) := by decide +kernel
theorem dX9_count_126 : decode cX9_count 126 = .ok (.iaload, 1) := by decide +kernel
theorem dX9_count_127 : decode cX9_count 127 = .ok (.ireturn, 1) := by decide +kernel
theorem dX9_count_128 : decode cX9_count 128 = .ok (.iload_n 2, 1) := by decide +kernel
theorem dX9_count_129 : decode cX9_count 129 = .ok (.ireturn, 1) := by decide +kernel
theorem dX9_count_130 : decode cX9_count 130 = .ok (.aload_n 0, 1) := by decide +kernel
theorem dX9_count_131 : decode cX9_count 131 = .ok (.iconst 2, 1) := by decide +kernel
theorem dX9_count_132 : decode cX9_count 132 = .ok (.invokevirtual 174, 3) := by decide +kernel
theorem dX9_count_135 : decode cX9_count 135 = .ok (.ireturn, 1) := by decide +kernel
theorem dX9_count_136 : decode cX9_count 136 = .ok (.iconst (-1), 1) := by decide +kernel
theorem dX9_count_137 : decode cX9_count 137 = .ok (.ireturn, 1) := by decide +kernel
def f_X9_count_L8 (Λ : List Ly) (d : Dt) (p0 : Nat) (v1 : Int32) (k32 : Int32 → Int32 → Option (Int32 × Dt)) : Nat → Int32 → Int32 → Option (Int32 × Dt)
  | 0, _, _ => none
  | n + 1, v2, v3 => if (4 : Int32) ≤ v3 then (k32 v2 v3) else (Option.bind (rf Λ p0 9 1) fun q4 => if okA Λ q4 1 (((3 : Int32) * v3) + (0 : Int32)) = true then (f_X9_count_L8 Λ d p0 v1 k32 n (v2 + (d.1 q4 ((((3 : Int32) * v3) + (0 : Int32))).toNatClampNeg)) (v3 + (1 : Int32))) else none)
def f_X9_count (Λ : List Ly) (d : Dt) (p0 : Nat) (v1 : Int32) : Option (Int32 × Dt) := if clsAt Λ p0 = some 9 then (Option.bind (f_X9_starts Λ d p0) fun z2 => f_X9_count_L8 Λ z2 p0 v1 (fun x6_2 x6_3 => if v1 = (0 : Int32) then (Option.bind (rf Λ p0 9 0) fun q8 => if okA Λ q8 1 (41 : Int32) = true then (some ((z2.1 q8 ((41 : Int32)).toNatClampNeg), z2)) else none) else (if v1 = (1 : Int32) then (Option.bind (rf Λ p0 9 2) fun q11 => if okA Λ q11 3 (0 : Int32) = true then (if okA Λ q11 3 (1 : Int32) = true then (some (((f_X9_flag (z2.1 q11 ((0 : Int32)).toNatClampNeg)) + (f_X9_flag (z2.1 q11 ((1 : Int32)).toNatClampNeg))), z2)) else none) else none) else (if v1 = (2 : Int32) then (some ((z2.1 p0 6), z2)) else (if v1 = (3 : Int32) then (Option.bind (rf Λ p0 9 20) fun q16 => if okA Λ q16 1 (0 : Int32) = true then (if (z2.1 q16 ((0 : Int32)).toNatClampNeg) = (-4 : Int32) then (some ((-4 : Int32), z2)) else (Option.bind (rf Λ p0 9 21) fun q19 => if okA Λ q19 1 (0 : Int32) = true then (some ((z2.1 q19 ((0 : Int32)).toNatClampNeg), z2)) else none)) else none) else (if v1 = (4 : Int32) then (some (x6_2, z2)) else (if v1 = (5 : Int32) then (Option.bind (f_X9_sumOf Λ z2 p0 (2 : Int32)) fun z23 => some (z23, z2)) else (some ((-1 : Int32), z2)))))))) FU (0 : Int32) (0 : Int32)) else none
set_option maxHeartbeats 4000000 in
set_option maxRecDepth 100000 in
theorem w_X9_count_L8 {p : Program} {l : Launch} {e : Env} {s : State} {m : MethodId} {args : Array Value} {below : List Frame} {meth : Method} {c : Code} {Γ : Cx} {Λ : List Ly} {z : Int32 × Dt} {d : Dt} (C0 : Ct Γ p s m args c cX9_count 4 "SeasonBoundModel") (hr : meth.sig.returnType = (some FieldType.int)) (hlocks : meth.locks = false) (k32 : Int32 → Int32 → Option (Int32 × Dt)) (p0 : Nat) (v1 : Int32)
    (hk32 : ∀ (v2 : Int32) (v3 : Int32), (k32 v2 v3 = some z) → ∀ (H : Heap) (locs : List Loc) (ls : Array Slot), Hs Γ Λ d s H locs → lv_has ls 4 [(0, .ref (ad Γ.2.2.1 p0)), (1, .int v1), (2, .int v2), (3, .int v3)] → W p l e { frames := 2, cells := 0, slots := 0, locals := 45 } s m args below meth c H locs 0 0 (MQ below (QN Γ Λ z.2 (some (.int z.1))) args s 0 0 (AP Γ)) (F0 m 32 ls [])) :
    ∀ (n : Nat) (v2 : Int32) (v3 : Int32), f_X9_count_L8 Λ d p0 v1 k32 n v2 v3 = some z → ∀ (H : Heap) (locs : List Loc) (ls : Array Slot), Hs Γ Λ d s H locs → lv_has ls 4 [(0, .ref (ad Γ.2.2.1 p0)), (1, .int v1), (2, .int v2), (3, .int v3)] → W p l e { frames := 2, cells := 0, slots := 0, locals := 45 } s m args below meth c H locs 0 0 (MQ below (QN Γ Λ z.2 (some (.int z.1))) args s 0 0 (AP Γ)) (F0 m 8 ls []) := by
  obtain ⟨hx, hb, hml, hown, hts, hK⟩ := id C0
  intro n
  induction n with
  | zero =>
    intro v2 v3 hf
    cases hf
  | succ n ih =>
    intro v2 v3 hf H locs ls hH hl
    unfold f_X9_count_L8 at hf
    refine lv_iload_n hx hb dX9_count_8 rfl (lv_at hl 3 rfl) ?_
    refine lv_iconst (v := (4 : Int32)) hx hb dX9_count_9 (by decide) ?_
    refine lv_icmp_ge (tgt := 32) hx hb dX9_count_10 (by decide) (fun c3 => ?_) (fun c3 => ?_)
    · replace hf := it hf c3
      exact hk32 v2 v3 hf _ _ _ hH (lv_sub hl [0, 1, 2, 3] rfl)
    · replace hf := ie hf c3
      refine lv_iload_n hx hb dX9_count_13 rfl (lv_at hl 2 rfl) ?_
      refine lv_aload_n hx hb dX9_count_14 rfl (lv_at hl 0 rfl) ?_
      obtain ⟨q4, g4, hf⟩ := ob hf
      refine r_getr C0 hH fl_X9_13 g4 dX9_count_15 ?_
      refine lv_iconst (v := (3 : Int32)) hx hb dX9_count_18 (by decide) ?_
      refine lv_iload_n hx hb dX9_count_19 rfl (lv_at hl 3 rfl) ?_
      refine lv_imul hx hb dX9_count_20 ?_
      refine lv_iconst (v := (0 : Int32)) hx hb dX9_count_21 (by decide) ?_
      refine lv_iadd hx hb dX9_count_22 ?_
      obtain ⟨g5, hf⟩ := gd hf
      refine r_iald C0 hH g5 dX9_count_23 ?_
      refine lv_iadd hx hb dX9_count_24 ?_
      refine lv_istore_n (lv' := [(2, .int (v2 + (d.1 q4 ((((3 : Int32) * v3) + (0 : Int32))).toNatClampNeg))), (0, .ref (ad Γ.2.2.1 p0)), (1, .int v1), (3, .int v3)]) hx hb dX9_count_25 rfl hl (by decide) rfl (fun ls hl => ?_)
      refine lv_iinc (v := (v3 + (1 : Int32))) (lv' := [(3, .int (v3 + (1 : Int32))), (2, .int (v2 + (d.1 q4 ((((3 : Int32) * v3) + (0 : Int32))).toNatClampNeg))), (0, .ref (ad Γ.2.2.1 p0)), (1, .int v1)]) hx hb dX9_count_26 hl (k := 3) rfl (congrArg (fun w => v3 + w) (by decide)) (by decide) rfl (fun ls hl => ?_)
      refine lv_goto (tgt := 8) hx hb dX9_count_29 (by decide) ?_
      exact ih (v2 + (d.1 q4 ((((3 : Int32) * v3) + (0 : Int32))).toNatClampNeg)) (v3 + (1 : Int32)) hf _ _ _ hH (lv_sub hl [2, 3, 1, 0] rfl)
set_option maxHeartbeats 4000000 in
set_option maxRecDepth 100000 in
theorem c_X9_count (Γ : Cx) (l : Launch) (Λ : List Ly) (d : Dt) (p0 : Nat) (v1 : Int32) (z : Int32 × Dt) (hf : f_X9_count Λ d p0 v1 = some z) : Cn Γ l yX9_count cX9_count 4 (some FieldType.int) 2 45 [.ref (ad Γ.2.2.1 p0), .int v1] Λ d (some (.int z.1)) z.2 := by
  refine Cn.of (own := "SeasonBoundModel") (by decide +kernel) rfl (Nat.le_of_ble_eq_true rfl) ?_
  intro p e s m below meth c C0 hr hlocks hH ls hl
  have hl : lv_has ls 4 [(0, .ref (ad Γ.2.2.1 p0)), (1, .int v1)] := hl
  obtain ⟨hx, hb, hml, hown, hts, hK⟩ := id C0
  unfold f_X9_count at hf
  refine lv_aload_n hx hb dX9_count_0 rfl (lv_at hl 0 rfl) ?_
  obtain ⟨g1, hf⟩ := gd hf
  obtain ⟨z2, h2, hf⟩ := ob hf
  refine r_callVv (rest := []) C0 hH (c_X9_starts Γ l Λ d p0 z2 h2) cv_X9_177 g1 (by decide) rfl hl.1 rfl (Nat.le_of_ble_eq_true rfl) dX9_count_1 (by decide) (fun H locs hH => ?_)
  refine lv_iconst (v := (0 : Int32)) hx hb dX9_count_4 (by decide) ?_
  refine lv_istore_n (lv' := [(2, .int (0 : Int32)), (0, .ref (ad Γ.2.2.1 p0)), (1, .int v1)]) hx hb dX9_count_5 rfl hl (by decide) rfl (fun ls hl => ?_)
  refine lv_iconst (v := (0 : Int32)) hx hb dX9_count_6 (by decide) ?_
  refine lv_istore_n (lv' := [(3, .int (0 : Int32)), (2, .int (0 : Int32)), (0, .ref (ad Γ.2.2.1 p0)), (1, .int v1)]) hx hb dX9_count_7 rfl hl (by decide) rfl (fun ls hl => ?_)
  refine w_X9_count_L8 C0 hr hlocks _ p0 v1 ?k32 FU (0 : Int32) (0 : Int32) hf _ _ _ hH (lv_sub hl [2, 3, 1, 0] rfl)
  case k32 =>
    intro x6_2 x6_3 hf H locs ls hH hl
    refine lv_iload_n hx hb dX9_count_32 rfl (lv_at hl 1 rfl) ?_
    by_cases c7 : v1 = (0 : Int32)
    · replace hf := it hf c7
      refine lv_tableIn (off := 39) (tgt := 72) hx hb dX9_count_33 (by rw [c7]; decide) (by rw [c7]; decide) (by rw [c7]; rfl) (by decide) ?_
      refine lv_aload_n hx hb dX9_count_72 rfl (lv_at hl 0 rfl) ?_
      obtain ⟨q8, g8, hf⟩ := ob hf
      refine r_getr C0 hH fl_X9_7 g8 dX9_count_73 ?_
      refine lv_bipush (v := (41 : Int32)) hx hb dX9_count_76 (by decide) ?_
      obtain ⟨g9, hf⟩ := gd hf
      refine r_iald C0 hH g9 dX9_count_78 ?_
      obtain rfl := Option.some.inj hf
      exact r_iret (d' := d) C0 hr hlocks hH rfl dX9_count_79
    · replace hf := ie hf c7
      by_cases c10 : v1 = (1 : Int32)
      · replace hf := it hf c10
        refine lv_tableIn (off := 47) (tgt := 80) hx hb dX9_count_33 (by rw [c10]; decide) (by rw [c10]; decide) (by rw [c10]; rfl) (by decide) ?_
        refine lv_aload_n hx hb dX9_count_80 rfl (lv_at hl 0 rfl) ?_
        obtain ⟨q11, g11, hf⟩ := ob hf
        refine r_getr C0 hH fl_X9_16 g11 dX9_count_81 ?_
        refine lv_iconst (v := (0 : Int32)) hx hb dX9_count_84 (by decide) ?_
        obtain ⟨g12, hf⟩ := gd hf
        refine r_zald C0 hH g12 dX9_count_85 ?_
        refine r_callSi (rest := []) C0 hH (c_X9_flag Γ l Λ z2 (z2.1 q11 ((0 : Int32)).toNatClampNeg)) cs_X9_146 (by decide) rfl hl.1 rfl (Nat.le_of_ble_eq_true rfl) dX9_count_86 (by decide) (fun H locs hH => ?_)
        refine lv_aload_n hx hb dX9_count_89 rfl (lv_at hl 0 rfl) ?_
        refine r_getr C0 hH fl_X9_16 g11 dX9_count_90 ?_
        refine lv_iconst (v := (1 : Int32)) hx hb dX9_count_93 (by decide) ?_
        obtain ⟨g13, hf⟩ := gd hf
        refine r_zald C0 hH g13 dX9_count_94 ?_
        refine r_callSi (rest := [.int (f_X9_flag (z2.1 q11 ((0 : Int32)).toNatClampNeg))]) C0 hH (c_X9_flag Γ l Λ z2 (z2.1 q11 ((1 : Int32)).toNatClampNeg)) cs_X9_146 (by decide) rfl hl.1 rfl (Nat.le_of_ble_eq_true rfl) dX9_count_95 (by decide) (fun H locs hH => ?_)
        refine lv_iadd hx hb dX9_count_98 ?_
        obtain rfl := Option.some.inj hf
        exact r_iret (d' := d) C0 hr hlocks hH rfl dX9_count_99
      · replace hf := ie hf c10
        by_cases c14 : v1 = (2 : Int32)
        · replace hf := it hf c14
          refine lv_tableIn (off := 67) (tgt := 100) hx hb dX9_count_33 (by rw [c14]; decide) (by rw [c14]; decide) (by rw [c14]; rfl) (by decide) ?_
          refine lv_aload_n hx hb dX9_count_100 rfl (lv_at hl 0 rfl) ?_
          refine r_geti C0 hH fl_X9_60 g1 rfl dX9_count_101 ?_
          obtain rfl := Option.some.inj hf
          exact r_iret (d' := d) C0 hr hlocks hH rfl dX9_count_104
        · replace hf := ie hf c14
          by_cases c15 : v1 = (3 : Int32)
          · replace hf := it hf c15
            refine lv_tableIn (off := 72) (tgt := 105) hx hb dX9_count_33 (by rw [c15]; decide) (by rw [c15]; decide) (by rw [c15]; rfl) (by decide) ?_
            refine lv_aload_n hx hb dX9_count_105 rfl (lv_at hl 0 rfl) ?_
            obtain ⟨q16, g16, hf⟩ := ob hf
            refine r_getr C0 hH fl_X9_32 g16 dX9_count_106 ?_
            refine lv_iconst (v := (0 : Int32)) hx hb dX9_count_109 (by decide) ?_
            obtain ⟨g17, hf⟩ := gd hf
            refine r_iald C0 hH g17 dX9_count_110 ?_
            refine lv_bipush (v := (-4 : Int32)) hx hb dX9_count_111 (by decide) ?_
            refine lv_icmp_ne (tgt := 121) hx hb dX9_count_113 (by decide) (fun c18 => ?_) (fun c18 => ?_)
            · replace hf := ie hf c18
              refine lv_aload_n hx hb dX9_count_121 rfl (lv_at hl 0 rfl) ?_
              obtain ⟨q19, g19, hf⟩ := ob hf
              refine r_getr C0 hH fl_X9_35 g19 dX9_count_122 ?_
              refine lv_iconst (v := (0 : Int32)) hx hb dX9_count_125 (by decide) ?_
              obtain ⟨g20, hf⟩ := gd hf
              refine r_iald C0 hH g20 dX9_count_126 ?_
              obtain rfl := Option.some.inj hf
              exact r_iret (d' := d) C0 hr hlocks hH rfl dX9_count_127
            · replace hf := it hf c18
              refine lv_bipush (v := (-4 : Int32)) hx hb dX9_count_116 (by decide) ?_
              refine lv_goto (tgt := 127) hx hb dX9_count_118 (by decide) ?_
              obtain rfl := Option.some.inj hf
              exact r_iret (d' := d) C0 hr hlocks hH rfl dX9_count_127
          · replace hf := ie hf c15
            by_cases c21 : v1 = (4 : Int32)
            · replace hf := it hf c21
              refine lv_tableIn (off := 95) (tgt := 128) hx hb dX9_count_33 (by rw [c21]; decide) (by rw [c21]; decide) (by rw [c21]; rfl) (by decide) ?_
              refine lv_iload_n hx hb dX9_count_128 rfl (lv_at hl 2 rfl) ?_
              obtain rfl := Option.some.inj hf
              exact r_iret (d' := d) C0 hr hlocks hH rfl dX9_count_129
            · replace hf := ie hf c21
              by_cases c22 : v1 = (5 : Int32)
              · replace hf := it hf c22
                refine lv_tableIn (off := 97) (tgt := 130) hx hb dX9_count_33 (by rw [c22]; decide) (by rw [c22]; decide) (by rw [c22]; rfl) (by decide) ?_
                refine lv_aload_n hx hb dX9_count_130 rfl (lv_at hl 0 rfl) ?_
                refine lv_iconst (v := (2 : Int32)) hx hb dX9_count_131 (by decide) ?_
                obtain ⟨z23, h23, hf⟩ := ob hf
                refine r_callVi (rest := []) C0 hH (c_X9_sumOf Γ l Λ z2 p0 (2 : Int32) z23 h23) cv_X9_174 g1 (by decide) rfl hl.1 rfl (Nat.le_of_ble_eq_true rfl) dX9_count_132 (by decide) (fun H locs hH => ?_)
                obtain rfl := Option.some.inj hf
                exact r_iret (d' := d) C0 hr hlocks hH rfl dX9_count_135
              · replace hf := ie hf c22
                refine lv_tableOut (tgt := 136) hx hb dX9_count_33 (by have hc7 := lv_neT c7 (a := 0) (by decide); have hc10 := lv_neT c10 (a := 1) (by decide); have hc14 := lv_neT c14 (a := 2) (by decide); have hc15 := lv_neT c15 (a := 3) (by decide); have hc21 := lv_neT c21 (a := 4) (by decide); have hc22 := lv_neT c22 (a := 5) (by decide); omega) (by decide) ?_
                refine lv_iconst (v := (-1 : Int32)) hx hb dX9_count_136 (by decide) ?_
                obtain rfl := Option.some.inj hf
                exact r_iret (d' := d) C0 hr hlocks hH rfl dX9_count_137
