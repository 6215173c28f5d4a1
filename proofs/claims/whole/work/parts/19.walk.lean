theorem dX9_see_0 : decode cX9_see 0 = .ok (.iload_n 1, 1) := by decide +kernel
theorem dX9_see_1 : decode cX9_see 1 = .ok (.i2l, 1) := by decide +kernel
theorem dX9_see_2 : decode cX9_see 2 = .ok (.lconst 0, 1) := by decide +kernel
theorem dX9_see_3 : decode cX9_see 3 = .ok (.ldc2_w 202, 3) := by decide +kernel
theorem dX9_see_6 : decode cX9_see 6 = .ok (.invokestatic 56, 3) := by decide +kernel
theorem dX9_see_9 : decode cX9_see 9 = .ok (.ifCond .eq 18, 3) := by decide +kernel
theorem dX9_see_12 : decode cX9_see 12 = .ok (.aload_n 0, 1) := by decide +kernel
theorem dX9_see_13 : decode cX9_see 13 = .ok (.iload_n 2, 1) := by decide +kernel
theorem dX9_see_14 : decode cX9_see 14 = .ok (.invokevirtual 180, 3) := by decide +kernel
theorem dX9_see_17 : decode cX9_see 17 = .ok (.ifCond .eq 10, 3) := by decide +kernel
theorem dX9_see_20 : decode cX9_see 20 = .ok (.iload_n 3, 1) := by decide +kernel
theorem dX9_see_21 : decode cX9_see 21 = .ok (.invokestatic 191, 3) := by decide +kernel
theorem dX9_see_24 : decode cX9_see 24 = .ok (.ifCond .ne 5, 3) := by decide +kernel
theorem dX9_see_27 : decode cX9_see 27 = .ok (.iconst (-1), 1) := by decide +kernel
theorem dX9_see_28 : decode cX9_see 28 = .ok (.ireturn, 1) := by decide +kernel
theorem dX9_see_29 : decode cX9_see 29 = .ok (.aload_n 0, 1) := by decide +kernel
theorem dX9_see_30 : decode cX9_see 30 = .ok (.getfield 7, 3) := by decide +kernel
theorem dX9_see_33 : decode cX9_see 33 = .ok (.bipush 41, 2) := by decide +kernel
theorem dX9_see_35 : decode cX9_see 35 = .ok (.iaload, 1) := by decide +kernel
theorem dX9_see_36 : decode cX9_see 36 = .ok (.bipush 6, 2) := by decide +kernel
theorem dX9_see_38 : decode cX9_see 38 = .ok (.if_icmp .ne 6, 3) := by decide +kernel
theorem dX9_see_41 : decode cX9_see 41 = .ok (.bipush (-3), 2) := by decide +kernel
theorem dX9_see_43 : decode cX9_see 43 = .ok (.ireturn, 1) := by decide +kernel
theorem dX9_see_44 : decode cX9_see 44 = .ok (.bipush 42, 2) := by decide +kernel
theorem dX9_see_46 : decode cX9_see 46 = .ok (.iconst 3, 1) := by decide +kernel
theorem dX9_see_47 : decode cX9_see 47 = .ok (.aload_n 0, 1) := by decide +kernel
theorem dX9_see_48 : decode cX9_see 48 = .ok (.getfield 7, 3) := by decide +kernel
theorem dX9_see_51 : decode cX9_see 51 = .ok (.bipush 41, 2) := by decide +kernel
theorem dX9_see_53 : decode cX9_see 53 = .ok (.iaload, 1) := by decide +kernel
theorem dX9_see_54 : decode cX9_see 54 = .ok (.imul, 1) := by decide +kernel
theorem dX9_see_55 : decode cX9_see 55 = .ok (.iadd, 1) := by decide +kernel
theorem dX9_see_56 : decode cX9_see 56 = .ok (.istore 4, 2) := by decide +kernel
theorem dX9_see_58 : decode cX9_see 58 = .ok (.aload_n 0, 1) := by decide +kernel
theorem dX9_see_59 : decode cX9_see 59 = .ok (.getfield 7, 3) := by decide +kernel
theorem dX9_see_62 : decode cX9_see 62 = .ok (.iload 4, 2) := by decide +kernel
theorem dX9_see_64 : decode cX9_see 64 = .ok (.iload_n 1, 1) := by decide +kernel
theorem dX9_see_65 : decode cX9_see 65 = .ok (.iastore, 1) := by decide +kernel
theorem dX9_see_66 : decode cX9_see 66 = .ok (.aload_n 0, 1) := by decide +kernel
theorem dX9_see_67 : decode cX9_see 67 = .ok (.getfield 7, 3) := by decide +kernel
theorem dX9_see_70 : decode cX9_see 70 = .ok (.iload 4, 2) := by decide +kernel
theorem dX9_see_72 : decode cX9_see 72 = .ok (.iconst 1, 1) := by decide +kernel
theorem dX9_see_73 : decode cX9_see 73 = .ok (.iadd, 1) := by decide +kernel
theorem dX9_see_74 : decode cX9_see 74 = .ok (.iload_n 2, 1) := by decide +kernel
theorem dX9_see_75 : decode cX9_see 75 = .ok (.iastore, 1) := by decide +kernel
theorem dX9_see_76 : decode cX9_see 76 = .ok (.aload_n 0, 1) := by decide +kernel
theorem dX9_see_77 : decode cX9_see 77 = .ok (.getfield 7, 3) := by decide +kernel
theorem dX9_see_80 : decode cX9_see 80 = .ok (.iload 4, 2) := by decide +kernel
theorem dX9_see_82 : decode cX9_see 82 = .ok (.iconst 2, 1) := by decide +kernel
theorem dX9_see_83 : decode cX9_see 83 = .ok (.iadd, 1) := by decide +kernel
theorem dX9_see_84 : decode cX9_see 84 = .ok (.iload_n 3, 1) := by decide +kernel
theorem dX9_see_85 : decode cX9_see 85 = .ok (.iastore, 1) := by decide +kernel
theorem dX9_see_86 : decode cX9_see 86 = .ok (.aload_n 0, 1) := by decide +kernel
theorem dX9_see_87 : decode cX9_see 87 = .ok (.getfield 7, 3) := by decide +kernel
theorem dX9_see_90 : decode cX9_see 90 = .ok (.bipush 41, 2) := by decide +kernel
theorem dX9_see_92 : decode cX9_see 92 = .ok (.dup2, 1) := by decide +kernel
theorem dX9_see_93 : decode cX9_see 93 = .ok (.iaload, 1) := by decide +kernel
theorem dX9_see_94 : decode cX9_see 94 = .ok (.iconst 1, 1) := by decide +kernel
theorem dX9_see_95 : decode cX9_see 95 = .ok (.iadd, 1) := by decide +kernel
theorem dX9_see_96 : decode cX9_see 96 = .ok (.iastore, 1) := by decide +kernel
theorem dX9_see_97 : decode cX9_see 97 = .ok (.aload_n 0, 1) := by decide +kernel
theorem dX9_see_98 : decode cX9_see 98 = .ok (.getfield 7, 3) := by decide +kernel
theorem dX9_see_101 : decode cX9_see 101 = .ok (.bipush 41, 2) := by decide +kernel
theorem dX9_see_103 : decode cX9_see 103 = .ok (.iaload, 1) := by decide +kernel
theorem dX9_see_104 : decode cX9_see 104 = .ok (.ireturn, 1) := by decide +kernel
def f_X9_see (Λ : List Ly) (d : Dt) (p0 : Nat) (v1 : Int32) (v2 : Int32) (v3 : Int32) : Option (Int32 × Dt) := if (f_X9_in (v1).toInt64 (0 : Int64) (30 : Int64)) = 0 then (some ((-1 : Int32), d)) else (if clsAt Λ p0 = some 9 then (Option.bind (f_X9_isChild Λ d p0 v2) fun z3 => if z3 = 0 then (some ((-1 : Int32), d)) else (if (f_X9_isSkill v3) = 0 then (some ((-1 : Int32), d)) else (Option.bind (rf Λ p0 9 0) fun q6 => if okA Λ q6 1 (41 : Int32) = true then (if (d.1 q6 ((41 : Int32)).toNatClampNeg) = (6 : Int32) then (some ((-3 : Int32), d)) else (if okA Λ q6 1 ((42 : Int32) + ((3 : Int32) * (d.1 q6 ((41 : Int32)).toNatClampNeg))) = true then (if okA Λ q6 1 (((42 : Int32) + ((3 : Int32) * (d.1 q6 ((41 : Int32)).toNatClampNeg))) + (1 : Int32)) = true then (if okA Λ q6 1 (((42 : Int32) + ((3 : Int32) * (d.1 q6 ((41 : Int32)).toNatClampNeg))) + (2 : Int32)) = true then (some (((pI (pI (pI (pI d q6 (((42 : Int32) + ((3 : Int32) * (d.1 q6 ((41 : Int32)).toNatClampNeg)))).toNatClampNeg v1) q6 ((((42 : Int32) + ((3 : Int32) * (d.1 q6 ((41 : Int32)).toNatClampNeg))) + (1 : Int32))).toNatClampNeg v2) q6 ((((42 : Int32) + ((3 : Int32) * (d.1 q6 ((41 : Int32)).toNatClampNeg))) + (2 : Int32))).toNatClampNeg v3) q6 ((41 : Int32)).toNatClampNeg (((pI (pI (pI d q6 (((42 : Int32) + ((3 : Int32) * (d.1 q6 ((41 : Int32)).toNatClampNeg)))).toNatClampNeg v1) q6 ((((42 : Int32) + ((3 : Int32) * (d.1 q6 ((41 : Int32)).toNatClampNeg))) + (1 : Int32))).toNatClampNeg v2) q6 ((((42 : Int32) + ((3 : Int32) * (d.1 q6 ((41 : Int32)).toNatClampNeg))) + (2 : Int32))).toNatClampNeg v3).1 q6 ((41 : Int32)).toNatClampNeg) + (1 : Int32))).1 q6 ((41 : Int32)).toNatClampNeg), (pI (pI (pI (pI d q6 (((42 : Int32) + ((3 : Int32) * (d.1 q6 ((41 : Int32)).toNatClampNeg)))).toNatClampNeg v1) q6 ((((42 : Int32) + ((3 : Int32) * (d.1 q6 ((41 : Int32)).toNatClampNeg))) + (1 : Int32))).toNatClampNeg v2) q6 ((((42 : Int32) + ((3 : Int32) * (d.1 q6 ((41 : Int32)).toNatClampNeg))) + (2 : Int32))).toNatClampNeg v3) q6 ((41 : Int32)).toNatClampNeg (((pI (pI (pI d q6 (((42 : Int32) + ((3 : Int32) * (d.1 q6 ((41 : Int32)).toNatClampNeg)))).toNatClampNeg v1) q6 ((((42 : Int32) + ((3 : Int32) * (d.1 q6 ((41 : Int32)).toNatClampNeg))) + (1 : Int32))).toNatClampNeg v2) q6 ((((42 : Int32) + ((3 : Int32) * (d.1 q6 ((41 : Int32)).toNatClampNeg))) + (2 : Int32))).toNatClampNeg v3).1 q6 ((41 : Int32)).toNatClampNeg) + (1 : Int32))))) else none) else none) else none)) else none))) else none)
set_option maxHeartbeats 4000000 in
set_option maxRecDepth 100000 in
theorem c_X9_see (Γ : Cx) (l : Launch) (Λ : List Ly) (d : Dt) (p0 : Nat) (v1 : Int32) (v2 : Int32) (v3 : Int32) (z : Int32 × Dt) (hf : f_X9_see Λ d p0 v1 v2 v3 = some z) : Cn Γ l yX9_see cX9_see 5 (some FieldType.int) 2 46 [.ref (ad Γ.2.2.1 p0), .int v1, .int v2, .int v3] Λ d (some (.int z.1)) z.2 := by
  refine Cn.of (own := "SeasonBoundModel") (by decide +kernel) rfl (Nat.le_of_ble_eq_true rfl) ?_
  intro p e s m below meth c C0 hr hlocks hH ls hl
  have hl : lv_has ls 5 [(0, .ref (ad Γ.2.2.1 p0)), (1, .int v1), (2, .int v2), (3, .int v3)] := hl
  obtain ⟨hx, hb, hml, hown, hts, hK⟩ := id C0
  unfold f_X9_see at hf
  refine lv_iload_n hx hb dX9_see_0 rfl (lv_at hl 1 rfl) ?_
  refine lv_i2l (v := (v1).toInt64) hx hb dX9_see_1 rfl ?_
  refine lv_lconst (v := (0 : Int64)) hx hb dX9_see_2 (by decide) ?_
  refine lv_ldc2 hx hb hown (hts _ kl_X9_202) dX9_see_3 ?_
  refine r_callSi (rest := []) C0 hH (c_X9_in Γ l Λ d (v1).toInt64 (0 : Int64) (30 : Int64)) cs_X9_56 (by decide) rfl hl.1 rfl (Nat.le_of_ble_eq_true rfl) dX9_see_6 (by decide) (fun H locs hH => ?_)
  refine lv_if_eq (tgt := 27) hx hb dX9_see_9 (by decide) (fun c1 => ?_) (fun c1 => ?_)
  · replace hf := it hf c1
    refine lv_iconst (v := (-1 : Int32)) hx hb dX9_see_27 (by decide) ?_
    obtain rfl := Option.some.inj hf
    exact r_iret (d' := d) C0 hr hlocks hH rfl dX9_see_28
  · replace hf := ie hf c1
    refine lv_aload_n hx hb dX9_see_12 rfl (lv_at hl 0 rfl) ?_
    refine lv_iload_n hx hb dX9_see_13 rfl (lv_at hl 2 rfl) ?_
    obtain ⟨g2, hf⟩ := gd hf
    obtain ⟨z3, h3, hf⟩ := ob hf
    refine r_callVi (rest := []) C0 hH (c_X9_isChild Γ l Λ d p0 v2 z3 h3) cv_X9_180 g2 (by decide) rfl hl.1 rfl (Nat.le_of_ble_eq_true rfl) dX9_see_14 (by decide) (fun H locs hH => ?_)
    refine lv_if_eq (tgt := 27) hx hb dX9_see_17 (by decide) (fun c4 => ?_) (fun c4 => ?_)
    · replace hf := it hf c4
      refine lv_iconst (v := (-1 : Int32)) hx hb dX9_see_27 (by decide) ?_
      obtain rfl := Option.some.inj hf
      exact r_iret (d' := d) C0 hr hlocks hH rfl dX9_see_28
    · replace hf := ie hf c4
      refine lv_iload_n hx hb dX9_see_20 rfl (lv_at hl 3 rfl) ?_
      refine r_callSi (rest := []) C0 hH (c_X9_isSkill Γ l Λ d v3) cs_X9_191 (by decide) rfl hl.1 rfl (Nat.le_of_ble_eq_true rfl) dX9_see_21 (by decide) (fun H locs hH => ?_)
      refine lv_if_ne (tgt := 29) hx hb dX9_see_24 (by decide) (fun c5 => ?_) (fun c5 => ?_)
      · replace hf := ie hf c5
        refine lv_aload_n hx hb dX9_see_29 rfl (lv_at hl 0 rfl) ?_
        obtain ⟨q6, g6, hf⟩ := ob hf
        refine r_getr C0 hH fl_X9_7 g6 dX9_see_30 ?_
        refine lv_bipush (v := (41 : Int32)) hx hb dX9_see_33 (by decide) ?_
        obtain ⟨g7, hf⟩ := gd hf
        refine r_iald C0 hH g7 dX9_see_35 ?_
        refine lv_bipush (v := (6 : Int32)) hx hb dX9_see_36 (by decide) ?_
        refine lv_icmp_ne (tgt := 44) hx hb dX9_see_38 (by decide) (fun c8 => ?_) (fun c8 => ?_)
        · replace hf := ie hf c8
          refine lv_bipush (v := (42 : Int32)) hx hb dX9_see_44 (by decide) ?_
          refine lv_iconst (v := (3 : Int32)) hx hb dX9_see_46 (by decide) ?_
          refine lv_aload_n hx hb dX9_see_47 rfl (lv_at hl 0 rfl) ?_
          refine r_getr C0 hH fl_X9_7 g6 dX9_see_48 ?_
          refine lv_bipush (v := (41 : Int32)) hx hb dX9_see_51 (by decide) ?_
          refine r_iald C0 hH g7 dX9_see_53 ?_
          refine lv_imul hx hb dX9_see_54 ?_
          refine lv_iadd hx hb dX9_see_55 ?_
          refine lv_istore (lv' := [(4, .int ((42 : Int32) + ((3 : Int32) * (d.1 q6 ((41 : Int32)).toNatClampNeg)))), (0, .ref (ad Γ.2.2.1 p0)), (1, .int v1), (2, .int v2), (3, .int v3)]) hx hb dX9_see_56 hl (by decide) rfl (fun ls hl => ?_)
          refine lv_aload_n hx hb dX9_see_58 rfl (lv_at hl 1 rfl) ?_
          refine r_getr C0 hH fl_X9_7 g6 dX9_see_59 ?_
          refine lv_iload hx hb dX9_see_62 (lv_at hl 0 rfl) ?_
          refine lv_iload_n hx hb dX9_see_64 rfl (lv_at hl 2 rfl) ?_
          obtain ⟨g9, hf⟩ := gd hf
          refine r_iast C0 hH g9 dX9_see_65 (fun H locs hH => ?_)
          refine lv_aload_n hx hb dX9_see_66 rfl (lv_at hl 1 rfl) ?_
          refine r_getr C0 hH fl_X9_7 g6 dX9_see_67 ?_
          refine lv_iload hx hb dX9_see_70 (lv_at hl 0 rfl) ?_
          refine lv_iconst (v := (1 : Int32)) hx hb dX9_see_72 (by decide) ?_
          refine lv_iadd hx hb dX9_see_73 ?_
          refine lv_iload_n hx hb dX9_see_74 rfl (lv_at hl 3 rfl) ?_
          obtain ⟨g10, hf⟩ := gd hf
          refine r_iast C0 hH g10 dX9_see_75 (fun H locs hH => ?_)
          refine lv_aload_n hx hb dX9_see_76 rfl (lv_at hl 1 rfl) ?_
          refine r_getr C0 hH fl_X9_7 g6 dX9_see_77 ?_
          refine lv_iload hx hb dX9_see_80 (lv_at hl 0 rfl) ?_
          refine lv_iconst (v := (2 : Int32)) hx hb dX9_see_82 (by decide) ?_
          refine lv_iadd hx hb dX9_see_83 ?_
          refine lv_iload_n hx hb dX9_see_84 rfl (lv_at hl 4 rfl) ?_
          obtain ⟨g11, hf⟩ := gd hf
          refine r_iast C0 hH g11 dX9_see_85 (fun H locs hH => ?_)
          refine lv_aload_n hx hb dX9_see_86 rfl (lv_at hl 1 rfl) ?_
          refine r_getr C0 hH fl_X9_7 g6 dX9_see_87 ?_
          refine lv_bipush (v := (41 : Int32)) hx hb dX9_see_90 (by decide) ?_
          refine lv_dup2_11 hx hb dX9_see_92 rfl rfl ?_
          refine r_iald C0 hH g7 dX9_see_93 ?_
          refine lv_iconst (v := (1 : Int32)) hx hb dX9_see_94 (by decide) ?_
          refine lv_iadd hx hb dX9_see_95 ?_
          refine r_iast C0 hH g7 dX9_see_96 (fun H locs hH => ?_)
          refine lv_aload_n hx hb dX9_see_97 rfl (lv_at hl 1 rfl) ?_
          refine r_getr C0 hH fl_X9_7 g6 dX9_see_98 ?_
          refine lv_bipush (v := (41 : Int32)) hx hb dX9_see_101 (by decide) ?_
          refine r_iald C0 hH g7 dX9_see_103 ?_
          obtain rfl := Option.some.inj hf
          exact r_iret (d' := d) C0 hr hlocks hH rfl dX9_see_104
        · replace hf := it hf c8
          refine lv_bipush (v := (-3 : Int32)) hx hb dX9_see_41 (by decide) ?_
          obtain rfl := Option.some.inj hf
          exact r_iret (d' := d) C0 hr hlocks hH rfl dX9_see_43
      · replace hf := it hf c5
        refine lv_iconst (v := (-1 : Int32)) hx hb dX9_see_27 (by decide) ?_
        obtain rfl := Option.some.inj hf
        exact r_iret (d' := d) C0 hr hlocks hH rfl dX9_see_28
theorem dX9_forget_0 : decode cX9_forget 0 = .ok (.iload_n 1, 1) := by decide +kernel
theorem dX9_forget_1 : decode cX9_forget 1 = .ok (.i2l, 1) := by decide +kernel
theorem dX9_forget_2 : decode cX9_forget 2 = .ok (.lconst 0, 1) := by decide +kernel
theorem dX9_forget_3 : decode cX9_forget 3 = .ok (.aload_n 0, 1) := by decide +kernel
theorem dX9_forget_4 : decode cX9_forget 4 = .ok (.getfield 7, 3) := by decide +kernel
theorem dX9_forget_7 : decode cX9_forget 7 = .ok (.bipush 41, 2) := by decide +kernel
theorem dX9_forget_9 : decode cX9_forget 9 = .ok (.iaload, 1) := by decide +kernel
theorem dX9_forget_10 : decode cX9_forget 10 = .ok (.i2l, 1) := by decide +kernel
theorem dX9_forget_11 : decode cX9_forget 11 = .ok (.invokestatic 56, 3) := by decide +kernel
theorem dX9_forget_14 : decode cX9_forget 14 = .ok (.ifCond .eq 13, 3) := by decide +kernel
theorem dX9_forget_17 : decode cX9_forget 17 = .ok (.aload_n 0, 1) := by decide +kernel
theorem dX9_forget_18 : decode cX9_forget 18 = .ok (.bipush 41, 2) := by decide +kernel
theorem dX9_forget_20 : decode cX9_forget 20 = .ok (.iload_n 1, 1) := by decide +kernel
theorem dX9_forget_21 : decode cX9_forget 21 = .ok (.invokevirtual 194, 3) := by decide +kernel
theorem dX9_forget_24 : decode cX9_forget 24 = .ok (.goto 4, 3) := by decide +kernel
theorem dX9_forget_27 : decode cX9_forget 27 = .ok (.iconst (-1), 1) := by decide +kernel
theorem dX9_forget_28 : decode cX9_forget 28 = .ok (.ireturn, 1) := by decide +kernel
def f_X9_forget (Λ : List Ly) (d : Dt) (p0 : Nat) (v1 : Int32) : Option (Int32 × Dt) := Option.bind (rf Λ p0 9 0) fun q1 => if okA Λ q1 1 (41 : Int32) = true then (if (f_X9_in (v1).toInt64 (0 : Int64) ((d.1 q1 ((41 : Int32)).toNatClampNeg)).toInt64) = 0 then (some ((-1 : Int32), d)) else (if clsAt Λ p0 = some 9 then (Option.bind (f_X9_becomes Λ d p0 (41 : Int32) v1) fun z5 => some (z5.1, z5.2)) else none)) else none
set_option maxHeartbeats 4000000 in
set_option maxRecDepth 100000 in
theorem c_X9_forget (Γ : Cx) (l : Launch) (Λ : List Ly) (d : Dt) (p0 : Nat) (v1 : Int32) (z : Int32 × Dt) (hf : f_X9_forget Λ d p0 v1 = some z) : Cn Γ l yX9_forget cX9_forget 2 (some FieldType.int) 1 25 [.ref (ad Γ.2.2.1 p0), .int v1] Λ d (some (.int z.1)) z.2 := by
  refine Cn.of (own := "SeasonBoundModel") (by decide +kernel) rfl (Nat.le_of_ble_eq_true rfl) ?_
  intro p e s m below meth c C0 hr hlocks hH ls hl
  have hl : lv_has ls 2 [(0, .ref (ad Γ.2.2.1 p0)), (1, .int v1)] := hl
  obtain ⟨hx, hb, hml, hown, hts, hK⟩ := id C0
  unfold f_X9_forget at hf
  refine lv_iload_n hx hb dX9_forget_0 rfl (lv_at hl 1 rfl) ?_
  refine lv_i2l (v := (v1).toInt64) hx hb dX9_forget_1 rfl ?_
  refine lv_lconst (v := (0 : Int64)) hx hb dX9_forget_2 (by decide) ?_
  refine lv_aload_n hx hb dX9_forget_3 rfl (lv_at hl 0 rfl) ?_
  obtain ⟨q1, g1, hf⟩ := ob hf
  refine r_getr C0 hH fl_X9_7 g1 dX9_forget_4 ?_
  refine lv_bipush (v := (41 : Int32)) hx hb dX9_forget_7 (by decide) ?_
  obtain ⟨g2, hf⟩ := gd hf
  refine r_iald C0 hH g2 dX9_forget_9 ?_
  refine lv_i2l (v := ((d.1 q1 ((41 : Int32)).toNatClampNeg)).toInt64) hx hb dX9_forget_10 rfl ?_
  refine r_callSi (rest := []) C0 hH (c_X9_in Γ l Λ d (v1).toInt64 (0 : Int64) ((d.1 q1 ((41 : Int32)).toNatClampNeg)).toInt64) cs_X9_56 (by decide) rfl hl.1 rfl (Nat.le_of_ble_eq_true rfl) dX9_forget_11 (by decide) (fun H locs hH => ?_)
  refine lv_if_eq (tgt := 27) hx hb dX9_forget_14 (by decide) (fun c3 => ?_) (fun c3 => ?_)
  · replace hf := it hf c3
    refine lv_iconst (v := (-1 : Int32)) hx hb dX9_forget_27 (by decide) ?_
    obtain rfl := Option.some.inj hf
    exact r_iret (d' := d) C0 hr hlocks hH rfl dX9_forget_28
  · replace hf := ie hf c3
    refine lv_aload_n hx hb dX9_forget_17 rfl (lv_at hl 0 rfl) ?_
    refine lv_bipush (v := (41 : Int32)) hx hb dX9_forget_18 (by decide) ?_
    refine lv_iload_n hx hb dX9_forget_20 rfl (lv_at hl 1 rfl) ?_
    obtain ⟨g4, hf⟩ := gd hf
    obtain ⟨z5, h5, hf⟩ := ob hf
    refine r_callVi (rest := []) C0 hH (c_X9_becomes Γ l Λ d p0 (41 : Int32) v1 z5 h5) cv_X9_194 g4 (by decide) rfl hl.1 rfl (Nat.le_of_ble_eq_true rfl) dX9_forget_21 (by decide) (fun H locs hH => ?_)
    refine lv_goto (tgt := 28) hx hb dX9_forget_24 (by decide) ?_
    obtain rfl := Option.some.inj hf
    exact r_iret (d' := d) C0 hr hlocks hH rfl dX9_forget_28
theorem dX9_isSoWith_0 : decode cX9_isSoWith 0 = .ok (.aload_n 0, 1) := by decide +kernel
theorem dX9_isSoWith_1 : decode cX9_isSoWith 1 = .ok (.invokevirtual 177, 3) := by decide +kernel
theorem dX9_isSoWith_4 : decode cX9_isSoWith 4 = .ok (.aload_n 0, 1) := by decide +kernel
theorem dX9_isSoWith_5 : decode cX9_isSoWith 5 = .ok (.getfield 13, 3) := by decide +kernel
theorem dX9_isSoWith_8 : decode cX9_isSoWith 8 = .ok (.iload_n 1, 1) := by decide +kernel
theorem dX9_isSoWith_9 : decode cX9_isSoWith 9 = .ok (.iload_n 2, 1) := by decide +kernel
theorem dX9_isSoWith_10 : decode cX9_isSoWith 10 = .ok (.iastore, 1) := by decide +kernel
theorem dX9_isSoWith_11 : decode cX9_isSoWith 11 = .ok (.iconst 0, 1) := by decide +kernel
theorem dX9_isSoWith_12 : decode cX9_isSoWith 12 = .ok (.istore_n 3, 1) := by decide +kernel
theorem dX9_isSoWith_13 : decode cX9_isSoWith 13 = .ok (.iload_n 3, 1) := by decide +kernel
theorem dX9_isSoWith_14 : decode cX9_isSoWith 14 = .ok (.bipush 30, 2) := by decide +kernel
theorem dX9_isSoWith_16 : decode cX9_isSoWith 16 = .ok (.if_icmp .gt 53, 3) := by decide +kernel
theorem dX9_isSoWith_19 : decode cX9_isSoWith 19 = .ok (.iconst 0, 1) := by decide +kernel
theorem dX9_isSoWith_20 : decode cX9_isSoWith 20 = .ok (.istore 4, 2) := by decide +kernel
theorem dX9_isSoWith_22 : decode cX9_isSoWith 22 = .ok (.iload 4, 2) := by decide +kernel
theorem dX9_isSoWith_24 : decode cX9_isSoWith 24 = .ok (.aload_n 0, 1) := by decide +kernel
theorem dX9_isSoWith_25 : decode cX9_isSoWith 25 = .ok (.getfield 13, 3) := by decide +kernel
theorem dX9_isSoWith_28 : decode cX9_isSoWith 28 = .ok (.bipush 37, 2) := by decide +kernel
theorem dX9_isSoWith_30 : decode cX9_isSoWith 30 = .ok (.iaload, 1) := by decide +kernel
theorem dX9_isSoWith_31 : decode cX9_isSoWith 31 = .ok (.if_icmp .ge 27, 3) := by decide +kernel
theorem dX9_isSoWith_34 : decode cX9_isSoWith 34 = .ok (.aload_n 0, 1) := by decide +kernel
theorem dX9_isSoWith_35 : decode cX9_isSoWith 35 = .ok (.getfield 26, 3) := by decide +kernel
theorem dX9_isSoWith_38 : decode cX9_isSoWith 38 = .ok (.iconst 5, 1) := by decide +kernel
theorem dX9_isSoWith_39 : decode cX9_isSoWith 39 = .ok (.iload_n 3, 1) := by decide +kernel
theorem dX9_isSoWith_40 : decode cX9_isSoWith 40 = .ok (.imul, 1) := by decide +kernel
theorem dX9_isSoWith_41 : decode cX9_isSoWith 41 = .ok (.iload 4, 2) := by decide +kernel
theorem dX9_isSoWith_43 : decode cX9_isSoWith 43 = .ok (.iadd, 1) := by decide +kernel
theorem dX9_isSoWith_44 : decode cX9_isSoWith 44 = .ok (.aload_n 0, 1) := by decide +kernel
theorem dX9_isSoWith_45 : decode cX9_isSoWith 45 = .ok (.iload 4, 2) := by decide +kernel
theorem dX9_isSoWith_47 : decode cX9_isSoWith 47 = .ok (.iconst 3, 1) := by decide +kernel
theorem dX9_isSoWith_48 : decode cX9_isSoWith 48 = .ok (.invokevirtual 136, 3) := by decide +kernel
theorem dX9_isSoWith_51 : decode cX9_isSoWith 51 = .ok (.iastore, 1) := by decide +kernel
theorem dX9_isSoWith_52 : decode cX9_isSoWith 52 = .ok (.iinc 4 1, 3) := by decide +kernel
theorem dX9_isSoWith_55 : decode cX9_isSoWith 55 = .ok (.goto (-33), 3) := by decide +kernel
theorem dX9_isSoWith_58 : decode cX9_isSoWith 58 = .ok (.aload_n 0, 1) := by decide +kernel
theorem dX9_isSoWith_59 : decode cX9_isSoWith 59 = .ok (.iconst 0, 1) := by decide +kernel
theorem dX9_isSoWith_60 : decode cX9_isSoWith 60 = .ok (.invokevirtual 167, 3) := by decide +kernel
theorem dX9_isSoWith_63 : decode cX9_isSoWith 63 = .ok (.iinc 3 1, 3) := by decide +kernel
theorem dX9_isSoWith_66 : decode cX9_isSoWith 66 = .ok (.goto (-53), 3) := by decide +kernel
theorem dX9_isSoWith_69 : decode cX9_isSoWith 69 = .ok (.iconst 1, 1) := by decide +kernel
theorem dX9_isSoWith_70 : decode cX9_isSoWith 70 = .ok (.istore_n 3, 1) := by decide +kernel
theorem dX9_isSoWith_71 : decode cX9_isSoWith 71 = .ok (.iconst 0, 1) := by decide +kernel
theorem dX9_isSoWith_72 : decode cX9_isSoWith 72 = .ok (.istore 4, 2) := by decide +kernel
theorem dX9_isSoWith_74 : decode cX9_isSoWith 74 = .ok (.iload 4, 2) := by decide +kernel
theorem dX9_isSoWith_76 : decode cX9_isSoWith 76 = .ok (.aload_n 0, 1) := by decide +kernel
theorem dX9_isSoWith_77 : decode cX9_isSoWith 77 = .ok (.getfield 7, 3) := by decide +kernel
theorem dX9_isSoWith_80 : decode cX9_isSoWith 80 = .ok (.bipush 41, 2) := by decide +kernel
theorem dX9_isSoWith_82 : decode cX9_isSoWith 82 = .ok (.iaload, 1) := by decide +kernel
theorem dX9_isSoWith_83 : decode cX9_isSoWith 83 = .ok (.if_icmp .ge 64, 3) := by decide +kernel
theorem dX9_isSoWith_86 : decode cX9_isSoWith 86 = .ok (.bipush 42, 2) := by decide +kernel
theorem dX9_isSoWith_88 : decode cX9_isSoWith 88 = .ok (.iconst 3, 1) := by decide +kernel
theorem dX9_isSoWith_89 : decode cX9_isSoWith 89 = .ok (.iload 4, 2) := by decide +kernel
theorem dX9_isSoWith_91 : decode cX9_isSoWith 91 = .ok (.imul, 1) := by decide +kernel
theorem dX9_isSoWith_92 : decode cX9_isSoWith 92 = .ok (.iadd, 1) := by decide +kernel
theorem dX9_isSoWith_93 : decode cX9_isSoWith 93 = .ok (.istore 5, 2) := by decide +kernel
theorem dX9_isSoWith_95 : decode cX9_isSoWith 95 = .ok (.iload_n 3, 1) := by decide +kernel
theorem dX9_isSoWith_96 : decode cX9_isSoWith 96 = .ok (.ifCond .eq 43, 3) := by decide +kernel
theorem dX9_isSoWith_99 : decode cX9_isSoWith 99 = .ok (.aload_n 0, 1) := by decide +kernel
theorem dX9_isSoWith_100 : decode cX9_isSoWith 100 = .ok (.getfield 26, 3) := by decide +kernel
theorem dX9_isSoWith_103 : decode cX9_isSoWith 103 = .ok (.iconst 5, 1) := by decide +kernel
theorem dX9_isSoWith_104 : decode cX9_isSoWith 104 = .ok (.aload_n 0, 1) := by decide +kernel
theorem dX9_isSoWith_105 : decode cX9_isSoWith 105 = .ok (.getfield 7, 3) := by decide +kernel
theorem dX9_isSoWith_108 : decode cX9_isSoWith 108 = .ok (.iload 5, 2) := by decide +kernel
theorem dX9_isSoWith_110 : decode cX9_isSoWith 110 = .ok (.iaload, 1) := by decide +kernel
theorem dX9_isSoWith_111 : decode cX9_isSoWith 111 = .ok (.imul, 1) := by decide +kernel
theorem dX9_isSoWith_112 : decode cX9_isSoWith 112 = .ok (.aload_n 0, 1) := by decide +kernel
theorem dX9_isSoWith_113 : decode cX9_isSoWith 113 = .ok (.getfield 7, 3) := by decide +kernel
theorem dX9_isSoWith_116 : decode cX9_isSoWith 116 = .ok (.iload 5, 2) := by decide +kernel
theorem dX9_isSoWith_118 : decode cX9_isSoWith 118 = .ok (.iconst 1, 1) := by decide +kernel
theorem dX9_isSoWith_119 : decode cX9_isSoWith 119 = .ok (.iadd, 1) := by decide +kernel
theorem dX9_isSoWith_120 : decode cX9_isSoWith 120 = .ok (.iaload, 1) := by decide +kernel
theorem dX9_isSoWith_121 : decode cX9_isSoWith 121 = .ok (.iadd, 1) := by decide +kernel
theorem dX9_isSoWith_122 : decode cX9_isSoWith 122 = .ok (.iaload, 1) := by decide +kernel
theorem dX9_isSoWith_123 : decode cX9_isSoWith 123 = .ok (.aload_n 0, 1) := by decide +kernel
theorem dX9_isSoWith_124 : decode cX9_isSoWith 124 = .ok (.getfield 7, 3) := by decide +kernel
theorem dX9_isSoWith_127 : decode cX9_isSoWith 127 = .ok (.iload 5, 2) := by decide +kernel
theorem dX9_isSoWith_129 : decode cX9_isSoWith 129 = .ok (.iconst 2, 1) := by decide +kernel
theorem dX9_isSoWith_130 : decode cX9_isSoWith 130 = .ok (.iadd, 1) := by decide +kernel
theorem dX9_isSoWith_131 : decode cX9_isSoWith 131 = .ok (.iaload, 1) := by decide +kernel
theorem dX9_isSoWith_132 : decode cX9_isSoWith 132 = .ok (.if_icmp .ne 7, 3) := by decide +kernel
theorem dX9_isSoWith_135 : decode cX9_isSoWith 135 = .ok (.iconst 1, 1) := by decide +kernel
theorem dX9_isSoWith_136 : decode cX9_isSoWith 136 = .ok (.goto 4, 3) := by decide +kernel
theorem dX9_isSoWith_139 : decode cX9_isSoWith 139 = .ok (.iconst 0, 1) := by decide +kernel
theorem dX9_isSoWith_140 : decode cX9_isSoWith 140 = .ok (.istore_n 3, 1) := by decide +kernel
theorem dX9_isSoWith_141 : decode cX9_isSoWith 141 = .ok (.iinc 4 1, 3) := by decide +kernel
theorem dX9_isSoWith_144 : decode cX9_isSoWith 144 = .ok (.goto (-70), 3) := by decide +kernel
theorem dX9_isSoWith_147 : decode cX9_isSoWith 147 = .ok (.iload_n 3, 1) := by decide +kernel
theorem dX9_isSoWith_148 : decode cX9_isSoWith 148 = .ok (.ireturn, 1) := by decide +kernel
def f_X9_isSoWith_L22 (Λ : List Ly) (p0 : Nat) (v3 : Int32) (k58 : Int32 → Dt → Option (Int32 × Dt)) : Nat → Int32 → Dt → Option (Int32 × Dt)
  | 0, _, _ => none
  | n + 1, v4, d => Option.bind (rf Λ p0 9 1) fun q6 => if okA Λ q6 1 (37 : Int32) = true then (if (d.1 q6 ((37 : Int32)).toNatClampNeg) ≤ v4 then (k58 v4 d) else (Option.bind (rf Λ p0 9 18) fun q9 => if clsAt Λ p0 = some 9 then (Option.bind (f_X9_of Λ d p0 v4 (3 : Int32)) fun z11 => if okA Λ q9 1 (((5 : Int32) * v3) + v4) = true then (f_X9_isSoWith_L22 Λ p0 v3 k58 n (v4 + (1 : Int32)) (pI d q9 ((((5 : Int32) * v3) + v4)).toNatClampNeg z11)) else none) else none)) else none
def f_X9_isSoWith_L13 (Λ : List Ly) (p0 : Nat) (k69 : Int32 → Dt → Option (Int32 × Dt)) : Nat → Int32 → Dt → Option (Int32 × Dt)
  | 0, _, _ => none
  | n + 1, v3, d => if (30 : Int32) < v3 then (k69 v3 d) else (f_X9_isSoWith_L22 Λ p0 v3 (fun x13_4 d13 => if clsAt Λ p0 = some 9 then (Option.bind (f_X9_weekGoes Λ d13 p0 (0 : Int32)) fun z15 => f_X9_isSoWith_L13 Λ p0 k69 n (v3 + (1 : Int32)) z15) else none) FU (0 : Int32) d)
def f_X9_isSoWith_L74 (Λ : List Ly) (d : Dt) (p0 : Nat) : Nat → Int32 → Int32 → Option (Int32 × Dt)
  | 0, _, _ => none
  | n + 1, v3, v4 => Option.bind (rf Λ p0 9 0) fun q17 => if okA Λ q17 1 (41 : Int32) = true then (if (d.1 q17 ((41 : Int32)).toNatClampNeg) ≤ v4 then (if (v3 = 0 ∨ v3 = 1) then (some (v3, d)) else none) else (if v3 = 0 then (f_X9_isSoWith_L74 Λ d p0 n (0 : Int32) (v4 + (1 : Int32))) else (Option.bind (rf Λ p0 9 18) fun q22 => if okA Λ q17 1 ((42 : Int32) + ((3 : Int32) * v4)) = true then (if okA Λ q17 1 (((42 : Int32) + ((3 : Int32) * v4)) + (1 : Int32)) = true then (if okA Λ q22 1 (((5 : Int32) * (d.1 q17 (((42 : Int32) + ((3 : Int32) * v4))).toNatClampNeg)) + (d.1 q17 ((((42 : Int32) + ((3 : Int32) * v4)) + (1 : Int32))).toNatClampNeg)) = true then (if okA Λ q17 1 (((42 : Int32) + ((3 : Int32) * v4)) + (2 : Int32)) = true then (if (d.1 q22 ((((5 : Int32) * (d.1 q17 (((42 : Int32) + ((3 : Int32) * v4))).toNatClampNeg)) + (d.1 q17 ((((42 : Int32) + ((3 : Int32) * v4)) + (1 : Int32))).toNatClampNeg))).toNatClampNeg) = (d.1 q17 ((((42 : Int32) + ((3 : Int32) * v4)) + (2 : Int32))).toNatClampNeg) then (f_X9_isSoWith_L74 Λ d p0 n (1 : Int32) (v4 + (1 : Int32))) else (f_X9_isSoWith_L74 Λ d p0 n (0 : Int32) (v4 + (1 : Int32)))) else none) else none) else none) else none))) else none
def f_X9_isSoWith (Λ : List Ly) (d : Dt) (p0 : Nat) (v1 : Int32) (v2 : Int32) : Option (Int32 × Dt) := if clsAt Λ p0 = some 9 then (Option.bind (f_X9_starts Λ d p0) fun z2 => Option.bind (rf Λ p0 9 1) fun q3 => if okA Λ q3 1 v1 = true then (f_X9_isSoWith_L13 Λ p0 (fun x16_3 d16 => f_X9_isSoWith_L74 Λ d16 p0 FU (1 : Int32) (0 : Int32)) FU (0 : Int32) (pI z2 q3 (v1).toNatClampNeg v2)) else none) else none
set_option maxHeartbeats 4000000 in
set_option maxRecDepth 100000 in
theorem w_X9_isSoWith_L22 {p : Program} {l : Launch} {e : Env} {s : State} {m : MethodId} {args : Array Value} {below : List Frame} {meth : Method} {c : Code} {Γ : Cx} {Λ : List Ly} {z : Int32 × Dt} (C0 : Ct Γ p s m args c cX9_isSoWith 6 "SeasonBoundModel") (hr : meth.sig.returnType = (some FieldType.boolean)) (hlocks : meth.locks = false) (k58 : Int32 → Dt → Option (Int32 × Dt)) (p0 : Nat) (v3 : Int32)
    (hk58 : ∀ (v4 : Int32) (d : Dt), (k58 v4 d = some z) → ∀ (H : Heap) (locs : List Loc) (ls : Array Slot), Hs Γ Λ d s H locs → lv_has ls 6 [(0, .ref (ad Γ.2.2.1 p0)), (3, .int v3), (4, .int v4)] → W p l e { frames := 5, cells := 0, slots := 0, locals := 109 } s m args below meth c H locs 0 0 (MQ below (QN Γ Λ z.2 (some (.int z.1))) args s 0 0 (AP Γ)) (F0 m 58 ls [])) :
    ∀ (n : Nat) (v4 : Int32) (d : Dt), f_X9_isSoWith_L22 Λ p0 v3 k58 n v4 d = some z → ∀ (H : Heap) (locs : List Loc) (ls : Array Slot), Hs Γ Λ d s H locs → lv_has ls 6 [(0, .ref (ad Γ.2.2.1 p0)), (3, .int v3), (4, .int v4)] → W p l e { frames := 5, cells := 0, slots := 0, locals := 109 } s m args below meth c H locs 0 0 (MQ below (QN Γ Λ z.2 (some (.int z.1))) args s 0 0 (AP Γ)) (F0 m 22 ls []) := by
  obtain ⟨hx, hb, hml, hown, hts, hK⟩ := id C0
  intro n
  induction n with
  | zero =>
    intro v4 d hf
    cases hf
  | succ n ih =>
    intro v4 d hf H locs ls hH hl
    unfold f_X9_isSoWith_L22 at hf
    refine lv_iload hx hb dX9_isSoWith_22 (lv_at hl 2 rfl) ?_
    refine lv_aload_n hx hb dX9_isSoWith_24 rfl (lv_at hl 0 rfl) ?_
    obtain ⟨q6, g6, hf⟩ := ob hf
    refine r_getr C0 hH fl_X9_13 g6 dX9_isSoWith_25 ?_
    refine lv_bipush (v := (37 : Int32)) hx hb dX9_isSoWith_28 (by decide) ?_
    obtain ⟨g7, hf⟩ := gd hf
    refine r_iald C0 hH g7 dX9_isSoWith_30 ?_
    refine lv_icmp_ge (tgt := 58) hx hb dX9_isSoWith_31 (by decide) (fun c8 => ?_) (fun c8 => ?_)
    · replace hf := it hf c8
      exact hk58 v4 d hf _ _ _ hH (lv_sub hl [0, 1, 2] rfl)
    · replace hf := ie hf c8
      refine lv_aload_n hx hb dX9_isSoWith_34 rfl (lv_at hl 0 rfl) ?_
      obtain ⟨q9, g9, hf⟩ := ob hf
      refine r_getr C0 hH fl_X9_26 g9 dX9_isSoWith_35 ?_
      refine lv_iconst (v := (5 : Int32)) hx hb dX9_isSoWith_38 (by decide) ?_
      refine lv_iload_n hx hb dX9_isSoWith_39 rfl (lv_at hl 1 rfl) ?_
      refine lv_imul hx hb dX9_isSoWith_40 ?_
      refine lv_iload hx hb dX9_isSoWith_41 (lv_at hl 2 rfl) ?_
      refine lv_iadd hx hb dX9_isSoWith_43 ?_
      refine lv_aload_n hx hb dX9_isSoWith_44 rfl (lv_at hl 0 rfl) ?_
      refine lv_iload hx hb dX9_isSoWith_45 (lv_at hl 2 rfl) ?_
      refine lv_iconst (v := (3 : Int32)) hx hb dX9_isSoWith_47 (by decide) ?_
      obtain ⟨g10, hf⟩ := gd hf
      obtain ⟨z11, h11, hf⟩ := ob hf
      refine r_callVi (rest := [.int (((5 : Int32) * v3) + v4), .ref (ad Γ.2.2.1 q9)]) C0 hH (c_X9_of Γ l Λ d p0 v4 (3 : Int32) z11 h11) cv_X9_136 g10 (by decide) rfl hl.1 rfl (Nat.le_of_ble_eq_true rfl) dX9_isSoWith_48 (by decide) (fun H locs hH => ?_)
      obtain ⟨g12, hf⟩ := gd hf
      refine r_iast C0 hH g12 dX9_isSoWith_51 (fun H locs hH => ?_)
      refine lv_iinc (v := (v4 + (1 : Int32))) (lv' := [(4, .int (v4 + (1 : Int32))), (0, .ref (ad Γ.2.2.1 p0)), (3, .int v3)]) hx hb dX9_isSoWith_52 hl (k := 2) rfl (congrArg (fun w => v4 + w) (by decide)) (by decide) rfl (fun ls hl => ?_)
      refine lv_goto (tgt := 22) hx hb dX9_isSoWith_55 (by decide) ?_
      exact ih (v4 + (1 : Int32)) (pI d q9 ((((5 : Int32) * v3) + v4)).toNatClampNeg z11) hf _ _ _ hH (lv_sub hl [1, 2, 0] rfl)
set_option maxHeartbeats 4000000 in
set_option maxRecDepth 100000 in
theorem w_X9_isSoWith_L13 {p : Program} {l : Launch} {e : Env} {s : State} {m : MethodId} {args : Array Value} {below : List Frame} {meth : Method} {c : Code} {Γ : Cx} {Λ : List Ly} {z : Int32 × Dt} (C0 : Ct Γ p s m args c cX9_isSoWith 6 "SeasonBoundModel") (hr : meth.sig.returnType = (some FieldType.boolean)) (hlocks : meth.locks = false) (k69 : Int32 → Dt → Option (Int32 × Dt)) (p0 : Nat)
    (hk69 : ∀ (v3 : Int32) (d : Dt), (k69 v3 d = some z) → ∀ (H : Heap) (locs : List Loc) (ls : Array Slot), Hs Γ Λ d s H locs → lv_has ls 6 [(0, .ref (ad Γ.2.2.1 p0)), (3, .int v3)] → W p l e { frames := 5, cells := 0, slots := 0, locals := 109 } s m args below meth c H locs 0 0 (MQ below (QN Γ Λ z.2 (some (.int z.1))) args s 0 0 (AP Γ)) (F0 m 69 ls [])) :
    ∀ (n : Nat) (v3 : Int32) (d : Dt), f_X9_isSoWith_L13 Λ p0 k69 n v3 d = some z → ∀ (H : Heap) (locs : List Loc) (ls : Array Slot), Hs Γ Λ d s H locs → lv_has ls 6 [(0, .ref (ad Γ.2.2.1 p0)), (3, .int v3)] → W p l e { frames := 5, cells := 0, slots := 0, locals := 109 } s m args below meth c H locs 0 0 (MQ below (QN Γ Λ z.2 (some (.int z.1))) args s 0 0 (AP Γ)) (F0 m 13 ls []) := by
  obtain ⟨hx, hb, hml, hown, hts, hK⟩ := id C0
  intro n
  induction n with
  | zero =>
    intro v3 d hf
    cases hf
  | succ n ih =>
    intro v3 d hf H locs ls hH hl
    unfold f_X9_isSoWith_L13 at hf
    refine lv_iload_n hx hb dX9_isSoWith_13 rfl (lv_at hl 1 rfl) ?_
    refine lv_bipush (v := (30 : Int32)) hx hb dX9_isSoWith_14 (by decide) ?_
    refine lv_icmp_gt (tgt := 69) hx hb dX9_isSoWith_16 (by decide) (fun c5 => ?_) (fun c5 => ?_)
    · replace hf := it hf c5
      exact hk69 v3 d hf _ _ _ hH (lv_sub hl [0, 1] rfl)
    · replace hf := ie hf c5
      refine lv_iconst (v := (0 : Int32)) hx hb dX9_isSoWith_19 (by decide) ?_
      refine lv_istore (lv' := [(4, .int (0 : Int32)), (0, .ref (ad Γ.2.2.1 p0)), (3, .int v3)]) hx hb dX9_isSoWith_20 hl (by decide) rfl (fun ls hl => ?_)
      refine w_X9_isSoWith_L22 C0 hr hlocks _ p0 v3 ?k58 FU (0 : Int32) d hf _ _ _ hH (lv_sub hl [1, 2, 0] rfl)
      case k58 =>
        intro x13_4 d13 hf H locs ls hH hl
        refine lv_aload_n hx hb dX9_isSoWith_58 rfl (lv_at hl 0 rfl) ?_
        refine lv_iconst (v := (0 : Int32)) hx hb dX9_isSoWith_59 (by decide) ?_
        obtain ⟨g14, hf⟩ := gd hf
        obtain ⟨z15, h15, hf⟩ := ob hf
        refine r_callVv (rest := []) C0 hH (c_X9_weekGoes Γ l Λ d13 p0 (0 : Int32) z15 h15) cv_X9_167 g14 (by decide) rfl hl.1 rfl (Nat.le_of_ble_eq_true rfl) dX9_isSoWith_60 (by decide) (fun H locs hH => ?_)
        refine lv_iinc (v := (v3 + (1 : Int32))) (lv' := [(3, .int (v3 + (1 : Int32))), (0, .ref (ad Γ.2.2.1 p0)), (4, .int x13_4)]) hx hb dX9_isSoWith_63 hl (k := 1) rfl (congrArg (fun w => v3 + w) (by decide)) (by decide) rfl (fun ls hl => ?_)
        refine lv_goto (tgt := 13) hx hb dX9_isSoWith_66 (by decide) ?_
        exact ih (v3 + (1 : Int32)) z15 hf _ _ _ hH (lv_sub hl [1, 0] rfl)
set_option maxHeartbeats 4000000 in
set_option maxRecDepth 100000 in
theorem w_X9_isSoWith_L74 {p : Program} {l : Launch} {e : Env} {s : State} {m : MethodId} {args : Array Value} {below : List Frame} {meth : Method} {c : Code} {Γ : Cx} {Λ : List Ly} {z : Int32 × Dt} {d : Dt} (C0 : Ct Γ p s m args c cX9_isSoWith 6 "SeasonBoundModel") (hr : meth.sig.returnType = (some FieldType.boolean)) (hlocks : meth.locks = false) (p0 : Nat) :
    ∀ (n : Nat) (v3 : Int32) (v4 : Int32), f_X9_isSoWith_L74 Λ d p0 n v3 v4 = some z → ∀ (H : Heap) (locs : List Loc) (ls : Array Slot), Hs Γ Λ d s H locs → lv_has ls 6 [(0, .ref (ad Γ.2.2.1 p0)), (3, .int v3), (4, .int v4)] → W p l e { frames := 5, cells := 0, slots := 0, locals := 109 } s m args below meth c H locs 0 0 (MQ below (QN Γ Λ z.2 (some (.int z.1))) args s 0 0 (AP Γ)) (F0 m 74 ls []) := by
  obtain ⟨hx, hb, hml, hown, hts, hK⟩ := id C0
  intro n
  induction n with
  | zero =>
    intro v3 v4 hf
    cases hf
  | succ n ih =>
    intro v3 v4 hf H locs ls hH hl
    unfold f_X9_isSoWith_L74 at hf
    refine lv_iload hx hb dX9_isSoWith_74 (lv_at hl 2 rfl) ?_
    refine lv_aload_n hx hb dX9_isSoWith_76 rfl (lv_at hl 0 rfl) ?_
    obtain ⟨q17, g17, hf⟩ := ob hf
    refine r_getr C0 hH fl_X9_7 g17 dX9_isSoWith_77 ?_
    refine lv_bipush (v := (41 : Int32)) hx hb dX9_isSoWith_80 (by decide) ?_
    obtain ⟨g18, hf⟩ := gd hf
    refine r_iald C0 hH g18 dX9_isSoWith_82 ?_
    refine lv_icmp_ge (tgt := 147) hx hb dX9_isSoWith_83 (by decide) (fun c19 => ?_) (fun c19 => ?_)
    · replace hf := it hf c19
      refine lv_iload_n hx hb dX9_isSoWith_147 rfl (lv_at hl 1 rfl) ?_
      obtain ⟨g20, hf⟩ := gd hf
      obtain rfl := Option.some.inj hf
      exact r_iret (d' := d) C0 hr hlocks hH (nz g20) dX9_isSoWith_148
    · replace hf := ie hf c19
      refine lv_bipush (v := (42 : Int32)) hx hb dX9_isSoWith_86 (by decide) ?_
      refine lv_iconst (v := (3 : Int32)) hx hb dX9_isSoWith_88 (by decide) ?_
      refine lv_iload hx hb dX9_isSoWith_89 (lv_at hl 2 rfl) ?_
      refine lv_imul hx hb dX9_isSoWith_91 ?_
      refine lv_iadd hx hb dX9_isSoWith_92 ?_
      refine lv_istore (lv' := [(5, .int ((42 : Int32) + ((3 : Int32) * v4))), (0, .ref (ad Γ.2.2.1 p0)), (3, .int v3), (4, .int v4)]) hx hb dX9_isSoWith_93 hl (by decide) rfl (fun ls hl => ?_)
      refine lv_iload_n hx hb dX9_isSoWith_95 rfl (lv_at hl 2 rfl) ?_
      refine lv_if_eq (tgt := 139) hx hb dX9_isSoWith_96 (by decide) (fun c21 => ?_) (fun c21 => ?_)
      · replace hf := it hf c21
        refine lv_iconst (v := (0 : Int32)) hx hb dX9_isSoWith_139 (by decide) ?_
        refine lv_istore_n (lv' := [(3, .int (0 : Int32)), (5, .int ((42 : Int32) + ((3 : Int32) * v4))), (0, .ref (ad Γ.2.2.1 p0)), (4, .int v4)]) hx hb dX9_isSoWith_140 rfl hl (by decide) rfl (fun ls hl => ?_)
        refine lv_iinc (v := (v4 + (1 : Int32))) (lv' := [(4, .int (v4 + (1 : Int32))), (3, .int (0 : Int32)), (5, .int ((42 : Int32) + ((3 : Int32) * v4))), (0, .ref (ad Γ.2.2.1 p0))]) hx hb dX9_isSoWith_141 hl (k := 3) rfl (congrArg (fun w => v4 + w) (by decide)) (by decide) rfl (fun ls hl => ?_)
        refine lv_goto (tgt := 74) hx hb dX9_isSoWith_144 (by decide) ?_
        exact ih (0 : Int32) (v4 + (1 : Int32)) hf _ _ _ hH (lv_sub hl [3, 1, 0] rfl)
      · replace hf := ie hf c21
        refine lv_aload_n hx hb dX9_isSoWith_99 rfl (lv_at hl 1 rfl) ?_
        obtain ⟨q22, g22, hf⟩ := ob hf
        refine r_getr C0 hH fl_X9_26 g22 dX9_isSoWith_100 ?_
        refine lv_iconst (v := (5 : Int32)) hx hb dX9_isSoWith_103 (by decide) ?_
        refine lv_aload_n hx hb dX9_isSoWith_104 rfl (lv_at hl 1 rfl) ?_
        refine r_getr C0 hH fl_X9_7 g17 dX9_isSoWith_105 ?_
        refine lv_iload hx hb dX9_isSoWith_108 (lv_at hl 0 rfl) ?_
        obtain ⟨g23, hf⟩ := gd hf
        refine r_iald C0 hH g23 dX9_isSoWith_110 ?_
        refine lv_imul hx hb dX9_isSoWith_111 ?_
        refine lv_aload_n hx hb dX9_isSoWith_112 rfl (lv_at hl 1 rfl) ?_
        refine r_getr C0 hH fl_X9_7 g17 dX9_isSoWith_113 ?_
        refine lv_iload hx hb dX9_isSoWith_116 (lv_at hl 0 rfl) ?_
        refine lv_iconst (v := (1 : Int32)) hx hb dX9_isSoWith_118 (by decide) ?_
        refine lv_iadd hx hb dX9_isSoWith_119 ?_
        obtain ⟨g24, hf⟩ := gd hf
        refine r_iald C0 hH g24 dX9_isSoWith_120 ?_
        refine lv_iadd hx hb dX9_isSoWith_121 ?_
        obtain ⟨g25, hf⟩ := gd hf
        refine r_iald C0 hH g25 dX9_isSoWith_122 ?_
        refine lv_aload_n hx hb dX9_isSoWith_123 rfl (lv_at hl 1 rfl) ?_
        refine r_getr C0 hH fl_X9_7 g17 dX9_isSoWith_124 ?_
        refine lv_iload hx hb dX9_isSoWith_127 (lv_at hl 0 rfl) ?_
        refine lv_iconst (v := (2 : Int32)) hx hb dX9_isSoWith_129 (by decide) ?_
        refine lv_iadd hx hb dX9_isSoWith_130 ?_
        obtain ⟨g26, hf⟩ := gd hf
        refine r_iald C0 hH g26 dX9_isSoWith_131 ?_
        refine lv_icmp_ne (tgt := 139) hx hb dX9_isSoWith_132 (by decide) (fun c27 => ?_) (fun c27 => ?_)
        · replace hf := ie hf c27
          refine lv_iconst (v := (0 : Int32)) hx hb dX9_isSoWith_139 (by decide) ?_
          refine lv_istore_n (lv' := [(3, .int (0 : Int32)), (5, .int ((42 : Int32) + ((3 : Int32) * v4))), (0, .ref (ad Γ.2.2.1 p0)), (4, .int v4)]) hx hb dX9_isSoWith_140 rfl hl (by decide) rfl (fun ls hl => ?_)
          refine lv_iinc (v := (v4 + (1 : Int32))) (lv' := [(4, .int (v4 + (1 : Int32))), (3, .int (0 : Int32)), (5, .int ((42 : Int32) + ((3 : Int32) * v4))), (0, .ref (ad Γ.2.2.1 p0))]) hx hb dX9_isSoWith_141 hl (k := 3) rfl (congrArg (fun w => v4 + w) (by decide)) (by decide) rfl (fun ls hl => ?_)
          refine lv_goto (tgt := 74) hx hb dX9_isSoWith_144 (by decide) ?_
          exact ih (0 : Int32) (v4 + (1 : Int32)) hf _ _ _ hH (lv_sub hl [3, 1, 0] rfl)
        · replace hf := it hf c27
          refine lv_iconst (v := (1 : Int32)) hx hb dX9_isSoWith_135 (by decide) ?_
          refine lv_goto (tgt := 140) hx hb dX9_isSoWith_136 (by decide) ?_
          refine lv_istore_n (lv' := [(3, .int (1 : Int32)), (5, .int ((42 : Int32) + ((3 : Int32) * v4))), (0, .ref (ad Γ.2.2.1 p0)), (4, .int v4)]) hx hb dX9_isSoWith_140 rfl hl (by decide) rfl (fun ls hl => ?_)
          refine lv_iinc (v := (v4 + (1 : Int32))) (lv' := [(4, .int (v4 + (1 : Int32))), (3, .int (1 : Int32)), (5, .int ((42 : Int32) + ((3 : Int32) * v4))), (0, .ref (ad Γ.2.2.1 p0))]) hx hb dX9_isSoWith_141 hl (k := 3) rfl (congrArg (fun w => v4 + w) (by decide)) (by decide) rfl (fun ls hl => ?_)
          refine lv_goto (tgt := 74) hx hb dX9_isSoWith_144 (by decide) ?_
          exact ih (1 : Int32) (v4 + (1 : Int32)) hf _ _ _ hH (lv_sub hl [3, 1, 0] rfl)
set_option maxHeartbeats 4000000 in
set_option maxRecDepth 100000 in
theorem c_X9_isSoWith (Γ : Cx) (l : Launch) (Λ : List Ly) (d : Dt) (p0 : Nat) (v1 : Int32) (v2 : Int32) (z : Int32 × Dt) (hf : f_X9_isSoWith Λ d p0 v1 v2 = some z) : Cn Γ l yX9_isSoWith cX9_isSoWith 6 (some FieldType.boolean) 5 109 [.ref (ad Γ.2.2.1 p0), .int v1, .int v2] Λ d (some (.int z.1)) z.2 := by
  refine Cn.of (own := "SeasonBoundModel") (by decide +kernel) rfl (Nat.le_of_ble_eq_true rfl) ?_
  intro p e s m below meth c C0 hr hlocks hH ls hl
  have hl : lv_has ls 6 [(0, .ref (ad Γ.2.2.1 p0)), (1, .int v1), (2, .int v2)] := hl
  obtain ⟨hx, hb, hml, hown, hts, hK⟩ := id C0
  unfold f_X9_isSoWith at hf
  refine lv_aload_n hx hb dX9_isSoWith_0 rfl (lv_at hl 0 rfl) ?_
  obtain ⟨g1, hf⟩ := gd hf
  obtain ⟨z2, h2, hf⟩ := ob hf
  refine r_callVv (rest := []) C0 hH (c_X9_starts Γ l Λ d p0 z2 h2) cv_X9_177 g1 (by decide) rfl hl.1 rfl (Nat.le_of_ble_eq_true rfl) dX9_isSoWith_1 (by decide) (fun H locs hH => ?_)
  refine lv_aload_n hx hb dX9_isSoWith_4 rfl (lv_at hl 0 rfl) ?_
  obtain ⟨q3, g3, hf⟩ := ob hf
  refine r_getr C0 hH fl_X9_13 g3 dX9_isSoWith_5 ?_
  refine lv_iload_n hx hb dX9_isSoWith_8 rfl (lv_at hl 1 rfl) ?_
  refine lv_iload_n hx hb dX9_isSoWith_9 rfl (lv_at hl 2 rfl) ?_
  obtain ⟨g4, hf⟩ := gd hf
  refine r_iast C0 hH g4 dX9_isSoWith_10 (fun H locs hH => ?_)
  refine lv_iconst (v := (0 : Int32)) hx hb dX9_isSoWith_11 (by decide) ?_
  refine lv_istore_n (lv' := [(3, .int (0 : Int32)), (0, .ref (ad Γ.2.2.1 p0)), (1, .int v1), (2, .int v2)]) hx hb dX9_isSoWith_12 rfl hl (by decide) rfl (fun ls hl => ?_)
  refine w_X9_isSoWith_L13 C0 hr hlocks _ p0 ?k69 FU (0 : Int32) (pI z2 q3 (v1).toNatClampNeg v2) hf _ _ _ hH (lv_sub hl [1, 0] rfl)
  case k69 =>
    intro x16_3 d16 hf H locs ls hH hl
    refine lv_iconst (v := (1 : Int32)) hx hb dX9_isSoWith_69 (by decide) ?_
    refine lv_istore_n (lv' := [(3, .int (1 : Int32)), (0, .ref (ad Γ.2.2.1 p0))]) hx hb dX9_isSoWith_70 rfl hl (by decide) rfl (fun ls hl => ?_)
    refine lv_iconst (v := (0 : Int32)) hx hb dX9_isSoWith_71 (by decide) ?_
    refine lv_istore (lv' := [(4, .int (0 : Int32)), (3, .int (1 : Int32)), (0, .ref (ad Γ.2.2.1 p0))]) hx hb dX9_isSoWith_72 hl (by decide) rfl (fun ls hl => ?_)
    refine w_X9_isSoWith_L74 C0 hr hlocks p0 FU (1 : Int32) (0 : Int32) hf _ _ _ hH (lv_sub hl [2, 1, 0] rfl)
theorem dX9_which_0 : decode cX9_which 0 = .ok (.iconst 0, 1) := by decide +kernel
theorem dX9_which_1 : decode cX9_which 1 = .ok (.istore_n 3, 1) := by decide +kernel
theorem dX9_which_2 : decode cX9_which 2 = .ok (.iconst 0, 1) := by decide +kernel
theorem dX9_which_3 : decode cX9_which 3 = .ok (.istore 4, 2) := by decide +kernel
theorem dX9_which_5 : decode cX9_which 5 = .ok (.iload 4, 2) := by decide +kernel
theorem dX9_which_7 : decode cX9_which 7 = .ok (.iload_n 2, 1) := by decide +kernel
theorem dX9_which_8 : decode cX9_which 8 = .ok (.if_icmp .gt 25, 3) := by decide +kernel
theorem dX9_which_11 : decode cX9_which 11 = .ok (.iload_n 3, 1) := by decide +kernel
theorem dX9_which_12 : decode cX9_which 12 = .ok (.aload_n 0, 1) := by decide +kernel
theorem dX9_which_13 : decode cX9_which 13 = .ok (.iload_n 1, 1) := by decide +kernel
theorem dX9_which_14 : decode cX9_which 14 = .ok (.iload 4, 2) := by decide +kernel
theorem dX9_which_16 : decode cX9_which 16 = .ok (.invokevirtual 269, 3) := by decide +kernel
theorem dX9_which_19 : decode cX9_which 19 = .ok (.invokestatic 146, 3) := by decide +kernel
theorem dX9_which_22 : decode cX9_which 22 = .ok (.iload 4, 2) := by decide +kernel
theorem dX9_which_24 : decode cX9_which 24 = .ok (.ishl, 1) := by decide +kernel
theorem dX9_which_25 : decode cX9_which 25 = .ok (.ior, 1) := by decide +kernel
theorem dX9_which_26 : decode cX9_which 26 = .ok (.istore_n 3, 1) := by decide +kernel
theorem dX9_which_27 : decode cX9_which 27 = .ok (.iinc 4 1, 3) := by decide +kernel
theorem dX9_which_30 : decode cX9_which 30 = .ok (.goto (-25), 3) := by decide +kernel
theorem dX9_which_33 : decode cX9_which 33 = .ok (.iload_n 3, 1) := by decide +kernel
theorem dX9_which_34 : decode cX9_which 34 = .ok (.ireturn, 1) := by decide +kernel
def f_X9_which_L5 (Λ : List Ly) (p0 : Nat) (v1 : Int32) (v2 : Int32) : Nat → Int32 → Int32 → Dt → Option (Int32 × Dt)
  | 0, _, _, _ => none
  | n + 1, v3, v4, d => if v2 < v4 then (some (v3, d)) else (if clsAt Λ p0 = some 9 then (Option.bind (f_X9_isSoWith Λ d p0 v1 v4) fun z3 => f_X9_which_L5 Λ p0 v1 v2 n (v3 ||| ((f_X9_flag z3.1) <<< (v4 &&& 31))) (v4 + (1 : Int32)) z3.2) else none)
def f_X9_which (Λ : List Ly) (d : Dt) (p0 : Nat) (v1 : Int32) (v2 : Int32) : Option (Int32 × Dt) := f_X9_which_L5 Λ p0 v1 v2 FU (0 : Int32) (0 : Int32) d
set_option maxHeartbeats 4000000 in
set_option maxRecDepth 100000 in
theorem w_X9_which_L5 {p : Program} {l : Launch} {e : Env} {s : State} {m : MethodId} {args : Array Value} {below : List Frame} {meth : Method} {c : Code} {Γ : Cx} {Λ : List Ly} {z : Int32 × Dt} (C0 : Ct Γ p s m args c cX9_which 5 "SeasonBoundModel") (hr : meth.sig.returnType = (some FieldType.int)) (hlocks : meth.locks = false) (p0 : Nat) (v1 : Int32) (v2 : Int32) :
    ∀ (n : Nat) (v3 : Int32) (v4 : Int32) (d : Dt), f_X9_which_L5 Λ p0 v1 v2 n v3 v4 d = some z → ∀ (H : Heap) (locs : List Loc) (ls : Array Slot), Hs Γ Λ d s H locs → lv_has ls 5 [(0, .ref (ad Γ.2.2.1 p0)), (1, .int v1), (2, .int v2), (3, .int v3), (4, .int v4)] → W p l e { frames := 6, cells := 0, slots := 0, locals := 134 } s m args below meth c H locs 0 0 (MQ below (QN Γ Λ z.2 (some (.int z.1))) args s 0 0 (AP Γ)) (F0 m 5 ls []) := by
  obtain ⟨hx, hb, hml, hown, hts, hK⟩ := id C0
  intro n
  induction n with
  | zero =>
    intro v3 v4 d hf
    cases hf
  | succ n ih =>
    intro v3 v4 d hf H locs ls hH hl
    unfold f_X9_which_L5 at hf
    refine lv_iload hx hb dX9_which_5 (lv_at hl 4 rfl) ?_
    refine lv_iload_n hx hb dX9_which_7 rfl (lv_at hl 2 rfl) ?_
    refine lv_icmp_gt (tgt := 33) hx hb dX9_which_8 (by decide) (fun c1 => ?_) (fun c1 => ?_)
    · replace hf := it hf c1
      refine lv_iload_n hx hb dX9_which_33 rfl (lv_at hl 3 rfl) ?_
      obtain rfl := Option.some.inj hf
      exact r_iret (d' := d) C0 hr hlocks hH rfl dX9_which_34
    · replace hf := ie hf c1
      refine lv_iload_n hx hb dX9_which_11 rfl (lv_at hl 3 rfl) ?_
      refine lv_aload_n hx hb dX9_which_12 rfl (lv_at hl 0 rfl) ?_
      refine lv_iload_n hx hb dX9_which_13 rfl (lv_at hl 1 rfl) ?_
      refine lv_iload hx hb dX9_which_14 (lv_at hl 4 rfl) ?_
      obtain ⟨g2, hf⟩ := gd hf
      obtain ⟨z3, h3, hf⟩ := ob hf
      refine r_callVi (rest := [.int v3]) C0 hH (c_X9_isSoWith Γ l Λ d p0 v1 v4 z3 h3) cv_X9_269 g2 (by decide) rfl hl.1 rfl (Nat.le_of_ble_eq_true rfl) dX9_which_16 (by decide) (fun H locs hH => ?_)
      refine r_callSi (rest := [.int v3]) C0 hH (c_X9_flag Γ l Λ z3.2 z3.1) cs_X9_146 (by decide) rfl hl.1 rfl (Nat.le_of_ble_eq_true rfl) dX9_which_19 (by decide) (fun H locs hH => ?_)
      refine lv_iload hx hb dX9_which_22 (lv_at hl 4 rfl) ?_
      refine lv_ishl hx hb dX9_which_24 ?_
      refine lv_ior hx hb dX9_which_25 ?_
      refine lv_istore_n (lv' := [(3, .int (v3 ||| ((f_X9_flag z3.1) <<< (v4 &&& 31)))), (0, .ref (ad Γ.2.2.1 p0)), (1, .int v1), (2, .int v2), (4, .int v4)]) hx hb dX9_which_26 rfl hl (by decide) rfl (fun ls hl => ?_)
      refine lv_iinc (v := (v4 + (1 : Int32))) (lv' := [(4, .int (v4 + (1 : Int32))), (3, .int (v3 ||| ((f_X9_flag z3.1) <<< (v4 &&& 31)))), (0, .ref (ad Γ.2.2.1 p0)), (1, .int v1), (2, .int v2)]) hx hb dX9_which_27 hl (k := 4) rfl (congrArg (fun w => v4 + w) (by decide)) (by decide) rfl (fun ls hl => ?_)
      refine lv_goto (tgt := 5) hx hb dX9_which_30 (by decide) ?_
      exact ih (v3 ||| ((f_X9_flag z3.1) <<< (v4 &&& 31))) (v4 + (1 : Int32)) z3.2 hf _ _ _ hH (lv_sub hl [2, 3, 4, 1, 0] rfl)
set_option maxHeartbeats 4000000 in
set_option maxRecDepth 100000 in
theorem c_X9_which (Γ : Cx) (l : Launch) (Λ : List Ly) (d : Dt) (p0 : Nat) (v1 : Int32) (v2 : Int32) (z : Int32 × Dt) (hf : f_X9_which Λ d p0 v1 v2 = some z) : Cn Γ l yX9_which cX9_which 5 (some FieldType.int) 6 134 [.ref (ad Γ.2.2.1 p0), .int v1, .int v2] Λ d (some (.int z.1)) z.2 := by
  refine Cn.of (own := "SeasonBoundModel") (by decide +kernel) rfl (Nat.le_of_ble_eq_true rfl) ?_
  intro p e s m below meth c C0 hr hlocks hH ls hl
  have hl : lv_has ls 5 [(0, .ref (ad Γ.2.2.1 p0)), (1, .int v1), (2, .int v2)] := hl
  obtain ⟨hx, hb, hml, hown, hts, hK⟩ := id C0
  unfold f_X9_which at hf
  refine lv_iconst (v := (0 : Int32)) hx hb dX9_which_0 (by decide) ?_
  refine lv_istore_n (lv' := [(3, .int (0 : Int32)), (0, .ref (ad Γ.2.2.1 p0)), (1, .int v1), (2, .int v2)]) hx hb dX9_which_1 rfl hl (by decide) rfl (fun ls hl => ?_)
  refine lv_iconst (v := (0 : Int32)) hx hb dX9_which_2 (by decide) ?_
  refine lv_istore (lv' := [(4, .int (0 : Int32)), (3, .int (0 : Int32)), (0, .ref (ad Γ.2.2.1 p0)), (1, .int v1), (2, .int v2)]) hx hb dX9_which_3 hl (by decide) rfl (fun ls hl => ?_)
  refine w_X9_which_L5 C0 hr hlocks p0 v1 v2 FU (0 : Int32) (0 : Int32) d hf _ _ _ hH (lv_sub hl [2, 3, 4, 1, 0] rfl)
theorem dX9_kinds_0 : decode cX9_kinds 0 = .ok (.aload_n 0, 1) := by decide +kernel
theorem dX9_kinds_1 : decode cX9_kinds 1 = .ok (.iload_n 1, 1) := by decide +kernel
theorem dX9_kinds_2 : decode cX9_kinds 2 = .ok (.invokevirtual 180, 3) := by decide +kernel
theorem dX9_kinds_5 : decode cX9_kinds 5 = .ok (.ifCond .eq 19, 3) := by decide +kernel
theorem dX9_kinds_8 : decode cX9_kinds 8 = .ok (.aload_n 0, 1) := by decide +kernel
theorem dX9_kinds_9 : decode cX9_kinds 9 = .ok (.bipush 12, 2) := by decide +kernel
theorem dX9_kinds_11 : decode cX9_kinds 11 = .ok (.iconst 5, 1) := by decide +kernel
theorem dX9_kinds_12 : decode cX9_kinds 12 = .ok (.iload_n 1, 1) := by decide +kernel
theorem dX9_kinds_13 : decode cX9_kinds 13 = .ok (.imul, 1) := by decide +kernel
theorem dX9_kinds_14 : decode cX9_kinds 14 = .ok (.iadd, 1) := by decide +kernel
theorem dX9_kinds_15 : decode cX9_kinds 15 = .ok (.iconst 0, 1) := by decide +kernel
theorem dX9_kinds_16 : decode cX9_kinds 16 = .ok (.iadd, 1) := by decide +kernel
theorem dX9_kinds_17 : decode cX9_kinds 17 = .ok (.iconst 3, 1) := by decide +kernel
theorem dX9_kinds_18 : decode cX9_kinds 18 = .ok (.invokevirtual 272, 3) := by decide +kernel
theorem dX9_kinds_21 : decode cX9_kinds 21 = .ok (.goto 4, 3) := by decide +kernel
theorem dX9_kinds_24 : decode cX9_kinds 24 = .ok (.iconst (-1), 1) := by decide +kernel
theorem dX9_kinds_25 : decode cX9_kinds 25 = .ok (.ireturn, 1) := by decide +kernel
def f_X9_kinds (Λ : List Ly) (d : Dt) (p0 : Nat) (v1 : Int32) : Option (Int32 × Dt) := if clsAt Λ p0 = some 9 then (Option.bind (f_X9_isChild Λ d p0 v1) fun z2 => if z2 = 0 then (some ((-1 : Int32), d)) else (Option.bind (f_X9_which Λ d p0 (((12 : Int32) + ((5 : Int32) * v1)) + (0 : Int32)) (3 : Int32)) fun z4 => some (z4.1, z4.2))) else none
set_option maxHeartbeats 4000000 in
set_option maxRecDepth 100000 in
theorem c_X9_kinds (Γ : Cx) (l : Launch) (Λ : List Ly) (d : Dt) (p0 : Nat) (v1 : Int32) (z : Int32 × Dt) (hf : f_X9_kinds Λ d p0 v1 = some z) : Cn Γ l yX9_kinds cX9_kinds 2 (some FieldType.int) 7 158 [.ref (ad Γ.2.2.1 p0), .int v1] Λ d (some (.int z.1)) z.2 := by
  refine Cn.of (own := "SeasonBoundModel") (by decide +kernel) rfl (Nat.le_of_ble_eq_true rfl) ?_
  intro p e s m below meth c C0 hr hlocks hH ls hl
  have hl : lv_has ls 2 [(0, .ref (ad Γ.2.2.1 p0)), (1, .int v1)] := hl
  obtain ⟨hx, hb, hml, hown, hts, hK⟩ := id C0
  unfold f_X9_kinds at hf
  refine lv_aload_n hx hb dX9_kinds_0 rfl (lv_at hl 0 rfl) ?_
  refine lv_iload_n hx hb dX9_kinds_1 rfl (lv_at hl 1 rfl) ?_
  obtain ⟨g1, hf⟩ := gd hf
  obtain ⟨z2, h2, hf⟩ := ob hf
  refine r_callVi (rest := []) C0 hH (c_X9_isChild Γ l Λ d p0 v1 z2 h2) cv_X9_180 g1 (by decide) rfl hl.1 rfl (Nat.le_of_ble_eq_true rfl) dX9_kinds_2 (by decide) (fun H locs hH => ?_)
  refine lv_if_eq (tgt := 24) hx hb dX9_kinds_5 (by decide) (fun c3 => ?_) (fun c3 => ?_)
  · replace hf := it hf c3
    refine lv_iconst (v := (-1 : Int32)) hx hb dX9_kinds_24 (by decide) ?_
    obtain rfl := Option.some.inj hf
    exact r_iret (d' := d) C0 hr hlocks hH rfl dX9_kinds_25
  · replace hf := ie hf c3
    refine lv_aload_n hx hb dX9_kinds_8 rfl (lv_at hl 0 rfl) ?_
    refine lv_bipush (v := (12 : Int32)) hx hb dX9_kinds_9 (by decide) ?_
    refine lv_iconst (v := (5 : Int32)) hx hb dX9_kinds_11 (by decide) ?_
    refine lv_iload_n hx hb dX9_kinds_12 rfl (lv_at hl 1 rfl) ?_
    refine lv_imul hx hb dX9_kinds_13 ?_
    refine lv_iadd hx hb dX9_kinds_14 ?_
    refine lv_iconst (v := (0 : Int32)) hx hb dX9_kinds_15 (by decide) ?_
    refine lv_iadd hx hb dX9_kinds_16 ?_
    refine lv_iconst (v := (3 : Int32)) hx hb dX9_kinds_17 (by decide) ?_
    obtain ⟨z4, h4, hf⟩ := ob hf
    refine r_callVi (rest := []) C0 hH (c_X9_which Γ l Λ d p0 (((12 : Int32) + ((5 : Int32) * v1)) + (0 : Int32)) (3 : Int32) z4 h4) cv_X9_272 g1 (by decide) rfl hl.1 rfl (Nat.le_of_ble_eq_true rfl) dX9_kinds_18 (by decide) (fun H locs hH => ?_)
    refine lv_goto (tgt := 25) hx hb dX9_kinds_21 (by decide) ?_
    obtain rfl := Option.some.inj hf
    exact r_iret (d' := d) C0 hr hlocks hH rfl dX9_kinds_25
theorem dX9_seasons_0 : decode cX9_seasons 0 = .ok (.aload_n 0, 1) := by decide +kernel
theorem dX9_seasons_1 : decode cX9_seasons 1 = .ok (.iload_n 1, 1) := by decide +kernel
theorem dX9_seasons_2 : decode cX9_seasons 2 = .ok (.invokevirtual 180, 3) := by decide +kernel
theorem dX9_seasons_5 : decode cX9_seasons 5 = .ok (.ifCond .ne 5, 3) := by decide +kernel
theorem dX9_seasons_8 : decode cX9_seasons 8 = .ok (.iconst (-1), 1) := by decide +kernel
theorem dX9_seasons_9 : decode cX9_seasons 9 = .ok (.ireturn, 1) := by decide +kernel
theorem dX9_seasons_10 : decode cX9_seasons 10 = .ok (.aload_n 0, 1) := by decide +kernel
theorem dX9_seasons_11 : decode cX9_seasons 11 = .ok (.iload_n 1, 1) := by decide +kernel
theorem dX9_seasons_12 : decode cX9_seasons 12 = .ok (.invokevirtual 199, 3) := by decide +kernel
theorem dX9_seasons_15 : decode cX9_seasons 15 = .ok (.ifCond .eq 19, 3) := by decide +kernel
theorem dX9_seasons_18 : decode cX9_seasons 18 = .ok (.aload_n 0, 1) := by decide +kernel
theorem dX9_seasons_19 : decode cX9_seasons 19 = .ok (.bipush 12, 2) := by decide +kernel
theorem dX9_seasons_21 : decode cX9_seasons 21 = .ok (.iconst 5, 1) := by decide +kernel
theorem dX9_seasons_22 : decode cX9_seasons 22 = .ok (.iload_n 1, 1) := by decide +kernel
theorem dX9_seasons_23 : decode cX9_seasons 23 = .ok (.imul, 1) := by decide +kernel
theorem dX9_seasons_24 : decode cX9_seasons 24 = .ok (.iadd, 1) := by decide +kernel
theorem dX9_seasons_25 : decode cX9_seasons 25 = .ok (.iconst 1, 1) := by decide +kernel
theorem dX9_seasons_26 : decode cX9_seasons 26 = .ok (.iadd, 1) := by decide +kernel
theorem dX9_seasons_27 : decode cX9_seasons 27 = .ok (.iconst 3, 1) := by decide +kernel
theorem dX9_seasons_28 : decode cX9_seasons 28 = .ok (.invokevirtual 272, 3) := by decide +kernel
theorem dX9_seasons_31 : decode cX9_seasons 31 = .ok (.goto 5, 3) := by decide +kernel
theorem dX9_seasons_34 : decode cX9_seasons 34 = .ok (.bipush (-2), 2) := by decide +kernel
theorem dX9_seasons_36 : decode cX9_seasons 36 = .ok (.ireturn, 1) := by decide +kernel
def f_X9_seasons (Λ : List Ly) (d : Dt) (p0 : Nat) (v1 : Int32) : Option (Int32 × Dt) := if clsAt Λ p0 = some 9 then (Option.bind (f_X9_isChild Λ d p0 v1) fun z2 => if z2 = 0 then (some ((-1 : Int32), d)) else (Option.bind (f_X9_isBound Λ d p0 v1) fun z4 => if z4 = 0 then (some ((-2 : Int32), d)) else (Option.bind (f_X9_which Λ d p0 (((12 : Int32) + ((5 : Int32) * v1)) + (1 : Int32)) (3 : Int32)) fun z6 => some (z6.1, z6.2)))) else none
set_option maxHeartbeats 4000000 in
set_option maxRecDepth 100000 in
theorem c_X9_seasons (Γ : Cx) (l : Launch) (Λ : List Ly) (d : Dt) (p0 : Nat) (v1 : Int32) (z : Int32 × Dt) (hf : f_X9_seasons Λ d p0 v1 = some z) : Cn Γ l yX9_seasons cX9_seasons 2 (some FieldType.int) 7 158 [.ref (ad Γ.2.2.1 p0), .int v1] Λ d (some (.int z.1)) z.2 := by
  refine Cn.of (own := "SeasonBoundModel") (by decide +kernel) rfl (Nat.le_of_ble_eq_true rfl) ?_
  intro p e s m below meth c C0 hr hlocks hH ls hl
  have hl : lv_has ls 2 [(0, .ref (ad Γ.2.2.1 p0)), (1, .int v1)] := hl
  obtain ⟨hx, hb, hml, hown, hts, hK⟩ := id C0
  unfold f_X9_seasons at hf
  refine lv_aload_n hx hb dX9_seasons_0 rfl (lv_at hl 0 rfl) ?_
  refine lv_iload_n hx hb dX9_seasons_1 rfl (lv_at hl 1 rfl) ?_
  obtain ⟨g1, hf⟩ := gd hf
  obtain ⟨z2, h2, hf⟩ := ob hf
  refine r_callVi (rest := []) C0 hH (c_X9_isChild Γ l Λ d p0 v1 z2 h2) cv_X9_180 g1 (by decide) rfl hl.1 rfl (Nat.le_of_ble_eq_true rfl) dX9_seasons_2 (by decide) (fun H locs hH => ?_)
  refine lv_if_ne (tgt := 10) hx hb dX9_seasons_5 (by decide) (fun c3 => ?_) (fun c3 => ?_)
  · replace hf := ie hf c3
    refine lv_aload_n hx hb dX9_seasons_10 rfl (lv_at hl 0 rfl) ?_
    refine lv_iload_n hx hb dX9_seasons_11 rfl (lv_at hl 1 rfl) ?_
    obtain ⟨z4, h4, hf⟩ := ob hf
    refine r_callVi (rest := []) C0 hH (c_X9_isBound Γ l Λ d p0 v1 z4 h4) cv_X9_199 g1 (by decide) rfl hl.1 rfl (Nat.le_of_ble_eq_true rfl) dX9_seasons_12 (by decide) (fun H locs hH => ?_)
    refine lv_if_eq (tgt := 34) hx hb dX9_seasons_15 (by decide) (fun c5 => ?_) (fun c5 => ?_)
    · replace hf := it hf c5
      refine lv_bipush (v := (-2 : Int32)) hx hb dX9_seasons_34 (by decide) ?_
      obtain rfl := Option.some.inj hf
      exact r_iret (d' := d) C0 hr hlocks hH rfl dX9_seasons_36
    · replace hf := ie hf c5
      refine lv_aload_n hx hb dX9_seasons_18 rfl (lv_at hl 0 rfl) ?_
      refine lv_bipush (v := (12 : Int32)) hx hb dX9_seasons_19 (by decide) ?_
      refine lv_iconst (v := (5 : Int32)) hx hb dX9_seasons_21 (by decide) ?_
      refine lv_iload_n hx hb dX9_seasons_22 rfl (lv_at hl 1 rfl) ?_
      refine lv_imul hx hb dX9_seasons_23 ?_
      refine lv_iadd hx hb dX9_seasons_24 ?_
      refine lv_iconst (v := (1 : Int32)) hx hb dX9_seasons_25 (by decide) ?_
      refine lv_iadd hx hb dX9_seasons_26 ?_
      refine lv_iconst (v := (3 : Int32)) hx hb dX9_seasons_27 (by decide) ?_
      obtain ⟨z6, h6, hf⟩ := ob hf
      refine r_callVi (rest := []) C0 hH (c_X9_which Γ l Λ d p0 (((12 : Int32) + ((5 : Int32) * v1)) + (1 : Int32)) (3 : Int32) z6 h6) cv_X9_272 g1 (by decide) rfl hl.1 rfl (Nat.le_of_ble_eq_true rfl) dX9_seasons_28 (by decide) (fun H locs hH => ?_)
      refine lv_goto (tgt := 36) hx hb dX9_seasons_31 (by decide) ?_
      obtain rfl := Option.some.inj hf
      exact r_iret (d' := d) C0 hr hlocks hH rfl dX9_seasons_36
  · replace hf := it hf c3
    refine lv_iconst (v := (-1 : Int32)) hx hb dX9_seasons_8 (by decide) ?_
    obtain rfl := Option.some.inj hf
    exact r_iret (d' := d) C0 hr hlocks hH rfl dX9_seasons_9
theorem dX9_gifts_0 : decode cX9_gifts 0 = .ok (.iload_n 1, 1) := by decide +kernel
theorem dX9_gifts_1 : decode cX9_gifts 1 = .ok (.invokestatic 185, 3) := by decide +kernel
theorem dX9_gifts_4 : decode cX9_gifts 4 = .ok (.ifCond .eq 17, 3) := by decide +kernel
theorem dX9_gifts_7 : decode cX9_gifts 7 = .ok (.aload_n 0, 1) := by decide +kernel
theorem dX9_gifts_8 : decode cX9_gifts 8 = .ok (.iconst 3, 1) := by decide +kernel
theorem dX9_gifts_9 : decode cX9_gifts 9 = .ok (.iload_n 1, 1) := by decide +kernel
theorem dX9_gifts_10 : decode cX9_gifts 10 = .ok (.imul, 1) := by decide +kernel
theorem dX9_gifts_11 : decode cX9_gifts 11 = .ok (.iconst 1, 1) := by decide +kernel
theorem dX9_gifts_12 : decode cX9_gifts 12 = .ok (.iadd, 1) := by decide +kernel
theorem dX9_gifts_13 : decode cX9_gifts 13 = .ok (.bipush 9, 2) := by decide +kernel
theorem dX9_gifts_15 : decode cX9_gifts 15 = .ok (.invokevirtual 272, 3) := by decide +kernel
theorem dX9_gifts_18 : decode cX9_gifts 18 = .ok (.goto 4, 3) := by decide +kernel
theorem dX9_gifts_21 : decode cX9_gifts 21 = .ok (.iconst (-1), 1) := by decide +kernel
theorem dX9_gifts_22 : decode cX9_gifts 22 = .ok (.ireturn, 1) := by decide +kernel
def f_X9_gifts (Λ : List Ly) (d : Dt) (p0 : Nat) (v1 : Int32) : Option (Int32 × Dt) := if (f_X9_isSeason v1) = 0 then (some ((-1 : Int32), d)) else (if clsAt Λ p0 = some 9 then (Option.bind (f_X9_which Λ d p0 (((3 : Int32) * v1) + (1 : Int32)) (9 : Int32)) fun z3 => some (z3.1, z3.2)) else none)
set_option maxHeartbeats 4000000 in
set_option maxRecDepth 100000 in
theorem c_X9_gifts (Γ : Cx) (l : Launch) (Λ : List Ly) (d : Dt) (p0 : Nat) (v1 : Int32) (z : Int32 × Dt) (hf : f_X9_gifts Λ d p0 v1 = some z) : Cn Γ l yX9_gifts cX9_gifts 2 (some FieldType.int) 7 158 [.ref (ad Γ.2.2.1 p0), .int v1] Λ d (some (.int z.1)) z.2 := by
  refine Cn.of (own := "SeasonBoundModel") (by decide +kernel) rfl (Nat.le_of_ble_eq_true rfl) ?_
  intro p e s m below meth c C0 hr hlocks hH ls hl
  have hl : lv_has ls 2 [(0, .ref (ad Γ.2.2.1 p0)), (1, .int v1)] := hl
  obtain ⟨hx, hb, hml, hown, hts, hK⟩ := id C0
  unfold f_X9_gifts at hf
  refine lv_iload_n hx hb dX9_gifts_0 rfl (lv_at hl 1 rfl) ?_
  refine r_callSi (rest := []) C0 hH (c_X9_isSeason Γ l Λ d v1) cs_X9_185 (by decide) rfl hl.1 rfl (Nat.le_of_ble_eq_true rfl) dX9_gifts_1 (by decide) (fun H locs hH => ?_)
  refine lv_if_eq (tgt := 21) hx hb dX9_gifts_4 (by decide) (fun c1 => ?_) (fun c1 => ?_)
  · replace hf := it hf c1
    refine lv_iconst (v := (-1 : Int32)) hx hb dX9_gifts_21 (by decide) ?_
    obtain rfl := Option.some.inj hf
    exact r_iret (d' := d) C0 hr hlocks hH rfl dX9_gifts_22
  · replace hf := ie hf c1
    refine lv_aload_n hx hb dX9_gifts_7 rfl (lv_at hl 0 rfl) ?_
    refine lv_iconst (v := (3 : Int32)) hx hb dX9_gifts_8 (by decide) ?_
    refine lv_iload_n hx hb dX9_gifts_9 rfl (lv_at hl 1 rfl) ?_
    refine lv_imul hx hb dX9_gifts_10 ?_
    refine lv_iconst (v := (1 : Int32)) hx hb dX9_gifts_11 (by decide) ?_
    refine lv_iadd hx hb dX9_gifts_12 ?_
    refine lv_bipush (v := (9 : Int32)) hx hb dX9_gifts_13 (by decide) ?_
    obtain ⟨g2, hf⟩ := gd hf
    obtain ⟨z3, h3, hf⟩ := ob hf
    refine r_callVi (rest := []) C0 hH (c_X9_which Γ l Λ d p0 (((3 : Int32) * v1) + (1 : Int32)) (9 : Int32) z3 h3) cv_X9_272 g2 (by decide) rfl hl.1 rfl (Nat.le_of_ble_eq_true rfl) dX9_gifts_15 (by decide) (fun H locs hH => ?_)
    refine lv_goto (tgt := 22) hx hb dX9_gifts_18 (by decide) ?_
    obtain rfl := Option.some.inj hf
    exact r_iret (d' := d) C0 hr hlocks hH rfl dX9_gifts_22
theorem dX9_ask_0 : decode cX9_ask 0 = .ok (.iload_n 1, 1) := by decide +kernel
theorem dX9_ask_1 : decode cX9_ask 1 = .ok (.invokestatic 185, 3) := by decide +kernel
theorem dX9_ask_4 : decode cX9_ask 4 = .ok (.ifCond .eq 10, 3) := by decide +kernel
theorem dX9_ask_7 : decode cX9_ask 7 = .ok (.iload_n 2, 1) := by decide +kernel
theorem dX9_ask_8 : decode cX9_ask 8 = .ok (.invokestatic 228, 3) := by decide +kernel
theorem dX9_ask_11 : decode cX9_ask 11 = .ok (.ifCond .ne 5, 3) := by decide +kernel
theorem dX9_ask_14 : decode cX9_ask 14 = .ok (.iconst (-1), 1) := by decide +kernel
theorem dX9_ask_15 : decode cX9_ask 15 = .ok (.ireturn, 1) := by decide +kernel
theorem dX9_ask_16 : decode cX9_ask 16 = .ok (.iconst 0, 1) := by decide +kernel
theorem dX9_ask_17 : decode cX9_ask 17 = .ok (.istore_n 3, 1) := by decide +kernel
theorem dX9_ask_18 : decode cX9_ask 18 = .ok (.iconst 0, 1) := by decide +kernel
theorem dX9_ask_19 : decode cX9_ask 19 = .ok (.istore 4, 2) := by decide +kernel
theorem dX9_ask_21 : decode cX9_ask 21 = .ok (.iload 4, 2) := by decide +kernel
theorem dX9_ask_23 : decode cX9_ask 23 = .ok (.bipush 9, 2) := by decide +kernel
theorem dX9_ask_25 : decode cX9_ask 25 = .ok (.if_icmp .gt 63, 3) := by decide +kernel
theorem dX9_ask_28 : decode cX9_ask 28 = .ok (.aload_n 0, 1) := by decide +kernel
theorem dX9_ask_29 : decode cX9_ask 29 = .ok (.iconst 3, 1) := by decide +kernel
theorem dX9_ask_30 : decode cX9_ask 30 = .ok (.iload_n 1, 1) := by decide +kernel
theorem dX9_ask_31 : decode cX9_ask 31 = .ok (.imul, 1) := by decide +kernel
theorem dX9_ask_32 : decode cX9_ask 32 = .ok (.iconst 1, 1) := by decide +kernel
theorem dX9_ask_33 : decode cX9_ask 33 = .ok (.iadd, 1) := by decide +kernel
theorem dX9_ask_34 : decode cX9_ask 34 = .ok (.iload 4, 2) := by decide +kernel
theorem dX9_ask_36 : decode cX9_ask 36 = .ok (.invokevirtual 269, 3) := by decide +kernel
theorem dX9_ask_39 : decode cX9_ask 39 = .ok (.ifCond .eq 43, 3) := by decide +kernel
theorem dX9_ask_42 : decode cX9_ask 42 = .ok (.iconst 0, 1) := by decide +kernel
theorem dX9_ask_43 : decode cX9_ask 43 = .ok (.istore 5, 2) := by decide +kernel
theorem dX9_ask_45 : decode cX9_ask 45 = .ok (.iload 5, 2) := by decide +kernel
theorem dX9_ask_47 : decode cX9_ask 47 = .ok (.sipush 155, 3) := by decide +kernel
theorem dX9_ask_50 : decode cX9_ask 50 = .ok (.if_icmp .ge 29, 3) := by decide +kernel
theorem dX9_ask_53 : decode cX9_ask 53 = .ok (.aload_n 0, 1) := by decide +kernel
theorem dX9_ask_54 : decode cX9_ask 54 = .ok (.getfield 29, 3) := by decide +kernel
theorem dX9_ask_57 : decode cX9_ask 57 = .ok (.sipush 155, 3) := by decide +kernel
theorem dX9_ask_60 : decode cX9_ask 60 = .ok (.iload_n 3, 1) := by decide +kernel
theorem dX9_ask_61 : decode cX9_ask 61 = .ok (.imul, 1) := by decide +kernel
theorem dX9_ask_62 : decode cX9_ask 62 = .ok (.iload 5, 2) := by decide +kernel
theorem dX9_ask_64 : decode cX9_ask 64 = .ok (.iadd, 1) := by decide +kernel
theorem dX9_ask_65 : decode cX9_ask 65 = .ok (.aload_n 0, 1) := by decide +kernel
theorem dX9_ask_66 : decode cX9_ask 66 = .ok (.getfield 26, 3) := by decide +kernel
theorem dX9_ask_69 : decode cX9_ask 69 = .ok (.iload 5, 2) := by decide +kernel
theorem dX9_ask_71 : decode cX9_ask 71 = .ok (.iaload, 1) := by decide +kernel
theorem dX9_ask_72 : decode cX9_ask 72 = .ok (.iastore, 1) := by decide +kernel
theorem dX9_ask_73 : decode cX9_ask 73 = .ok (.iinc 5 1, 3) := by decide +kernel
theorem dX9_ask_76 : decode cX9_ask 76 = .ok (.goto (-31), 3) := by decide +kernel
theorem dX9_ask_79 : decode cX9_ask 79 = .ok (.iinc 3 1, 3) := by decide +kernel
theorem dX9_ask_82 : decode cX9_ask 82 = .ok (.iinc 4 1, 3) := by decide +kernel
theorem dX9_ask_85 : decode cX9_ask 85 = .ok (.goto (-64), 3) := by decide +kernel
theorem dX9_ask_88 : decode cX9_ask 88 = .ok (.iload_n 3, 1) := by decide +kernel
theorem dX9_ask_89 : decode cX9_ask 89 = .ok (.istore 4, 2) := by decide +kernel
theorem dX9_ask_91 : decode cX9_ask 91 = .ok (.bipush (-4), 2) := by decide +kernel
theorem dX9_ask_93 : decode cX9_ask 93 = .ok (.istore 5, 2) := by decide +kernel
theorem dX9_ask_95 : decode cX9_ask 95 = .ok (.iconst 0, 1) := by decide +kernel
theorem dX9_ask_96 : decode cX9_ask 96 = .ok (.istore 6, 2) := by decide +kernel
theorem dX9_ask_98 : decode cX9_ask 98 = .ok (.iload 6, 2) := by decide +kernel
theorem dX9_ask_100 : decode cX9_ask 100 = .ok (.sipush 155, 3) := by decide +kernel
theorem dX9_ask_103 : decode cX9_ask 103 = .ok (.if_icmp .ge 134, 3) := by decide +kernel
theorem dX9_ask_106 : decode cX9_ask 106 = .ok (.iconst 0, 1) := by decide +kernel
theorem dX9_ask_107 : decode cX9_ask 107 = .ok (.istore 7, 2) := by decide +kernel
theorem dX9_ask_109 : decode cX9_ask 109 = .ok (.iconst 0, 1) := by decide +kernel
theorem dX9_ask_110 : decode cX9_ask 110 = .ok (.istore 8, 2) := by decide +kernel
theorem dX9_ask_112 : decode cX9_ask 112 = .ok (.iload 8, 2) := by decide +kernel
theorem dX9_ask_114 : decode cX9_ask 114 = .ok (.iload_n 3, 1) := by decide +kernel
theorem dX9_ask_115 : decode cX9_ask 115 = .ok (.if_icmp .ge 87, 3) := by decide +kernel
theorem dX9_ask_118 : decode cX9_ask 118 = .ok (.iconst 0, 1) := by decide +kernel
theorem dX9_ask_119 : decode cX9_ask 119 = .ok (.istore 9, 2) := by decide +kernel
theorem dX9_ask_121 : decode cX9_ask 121 = .ok (.iconst 0, 1) := by decide +kernel
theorem dX9_ask_122 : decode cX9_ask 122 = .ok (.istore 10, 2) := by decide +kernel
theorem dX9_ask_124 : decode cX9_ask 124 = .ok (.iload 10, 2) := by decide +kernel
theorem dX9_ask_126 : decode cX9_ask 126 = .ok (.iload_n 3, 1) := by decide +kernel
theorem dX9_ask_127 : decode cX9_ask 127 = .ok (.if_icmp .ge 53, 3) := by decide +kernel
theorem dX9_ask_130 : decode cX9_ask 130 = .ok (.iload 9, 2) := by decide +kernel
theorem dX9_ask_132 : decode cX9_ask 132 = .ok (.aload_n 0, 1) := by decide +kernel
theorem dX9_ask_133 : decode cX9_ask 133 = .ok (.getfield 29, 3) := by decide +kernel
theorem dX9_ask_136 : decode cX9_ask 136 = .ok (.sipush 155, 3) := by decide +kernel
theorem dX9_ask_139 : decode cX9_ask 139 = .ok (.iload 8, 2) := by decide +kernel
theorem dX9_ask_141 : decode cX9_ask 141 = .ok (.imul, 1) := by decide +kernel
theorem dX9_ask_142 : decode cX9_ask 142 = .ok (.iload 6, 2) := by decide +kernel
theorem dX9_ask_144 : decode cX9_ask 144 = .ok (.iadd, 1) := by decide +kernel
theorem dX9_ask_145 : decode cX9_ask 145 = .ok (.iaload, 1) := by decide +kernel
theorem dX9_ask_146 : decode cX9_ask 146 = .ok (.aload_n 0, 1) := by decide +kernel
theorem dX9_ask_147 : decode cX9_ask 147 = .ok (.getfield 29, 3) := by decide +kernel
theorem dX9_ask_150 : decode cX9_ask 150 = .ok (.sipush 155, 3) := by decide +kernel
theorem dX9_ask_153 : decode cX9_ask 153 = .ok (.iload 10, 2) := by decide +kernel
theorem dX9_ask_155 : decode cX9_ask 155 = .ok (.imul, 1) := by decide +kernel
theorem dX9_ask_156 : decode cX9_ask 156 = .ok (.iload 6, 2) := by decide +kernel
theorem dX9_ask_158 : decode cX9_ask 158 = .ok (.iadd, 1) := by decide +kernel
theorem dX9_ask_159 : decode cX9_ask 159 = .ok (.iaload, 1) := by decide +kernel
theorem dX9_ask_160 : decode cX9_ask 160 = .ok (.if_icmp .ne 7, 3) := by decide +kernel
theorem dX9_ask_163 : decode cX9_ask 163 = .ok (.iconst 1, 1) := by decide +kernel
theorem dX9_ask_164 : decode cX9_ask 164 = .ok (.goto 4, 3) := by decide +kernel
theorem dX9_ask_167 : decode cX9_ask 167 = .ok (.iconst 0, 1) := by decide +kernel
theorem dX9_ask_168 : decode cX9_ask 168 = .ok (.invokestatic 146, 3) := by decide +kernel
theorem dX9_ask_171 : decode cX9_ask 171 = .ok (.iadd, 1) := by decide +kernel
theorem dX9_ask_172 : decode cX9_ask 172 = .ok (.istore 9, 2) := by decide +kernel
theorem dX9_ask_174 : decode cX9_ask 174 = .ok (.iinc 10 1, 3) := by decide +kernel
theorem dX9_ask_177 : decode cX9_ask 177 = .ok (.goto (-53), 3) := by decide +kernel
theorem dX9_ask_180 : decode cX9_ask 180 = .ok (.iload 9, 2) := by decide +kernel
theorem dX9_ask_182 : decode cX9_ask 182 = .ok (.iload 7, 2) := by decide +kernel
theorem dX9_ask_184 : decode cX9_ask 184 = .ok (.if_icmp .le 8, 3) := by decide +kernel
theorem dX9_ask_187 : decode cX9_ask 187 = .ok (.iload 9, 2) := by decide +kernel
theorem dX9_ask_189 : decode cX9_ask 189 = .ok (.goto 5, 3) := by decide +kernel
theorem dX9_ask_192 : decode cX9_ask 192 = .ok (.iload 7, 2) := by decide +kernel
theorem dX9_ask_194 : decode cX9_ask 194 = .ok (.istore 7, 2) := by decide +kernel
theorem dX9_ask_196 : decode cX9_ask 196 = .ok (.iinc 8 1, 3) := by decide +kernel
theorem dX9_ask_199 : decode cX9_ask 199 = .ok (.goto (-87), 3) := by decide +kernel
theorem dX9_ask_202 : decode cX9_ask 202 = .ok (.iload 6, 2) := by decide +kernel
theorem dX9_ask_204 : decode cX9_ask 204 = .ok (.iconst 5, 1) := by decide +kernel
theorem dX9_ask_205 : decode cX9_ask 205 = .ok (.irem, 1) := by decide +kernel
theorem dX9_ask_206 : decode cX9_ask 206 = .ok (.aload_n 0, 1) := by decide +kernel
theorem dX9_ask_207 : decode cX9_ask 207 = .ok (.getfield 7, 3) := by decide +kernel
theorem dX9_ask_210 : decode cX9_ask 210 = .ok (.bipush 37, 2) := by decide +kernel
theorem dX9_ask_212 : decode cX9_ask 212 = .ok (.iaload, 1) := by decide +kernel
theorem dX9_ask_213 : decode cX9_ask 213 = .ok (.if_icmp .ge 18, 3) := by decide +kernel
theorem dX9_ask_216 : decode cX9_ask 216 = .ok (.iload 7, 2) := by decide +kernel
theorem dX9_ask_218 : decode cX9_ask 218 = .ok (.iload 4, 2) := by decide +kernel
theorem dX9_ask_220 : decode cX9_ask 220 = .ok (.if_icmp .ge 11, 3) := by decide +kernel
theorem dX9_ask_223 : decode cX9_ask 223 = .ok (.iload 7, 2) := by decide +kernel
theorem dX9_ask_225 : decode cX9_ask 225 = .ok (.istore 4, 2) := by decide +kernel
theorem dX9_ask_227 : decode cX9_ask 227 = .ok (.iload 6, 2) := by decide +kernel
theorem dX9_ask_229 : decode cX9_ask 229 = .ok (.istore 5, 2) := by decide +kernel
theorem dX9_ask_231 : decode cX9_ask 231 = .ok (.iinc 6 1, 3) := by decide +kernel
theorem dX9_ask_234 : decode cX9_ask 234 = .ok (.goto (-136), 3) := by decide +kernel
theorem dX9_ask_237 : decode cX9_ask 237 = .ok (.iload 5, 2) := by decide +kernel
theorem dX9_ask_239 : decode cX9_ask 239 = .ok (.bipush (-4), 2) := by decide +kernel
theorem dX9_ask_241 : decode cX9_ask 241 = .ok (.if_icmp .ne 8, 3) := by decide +kernel
theorem dX9_ask_244 : decode cX9_ask 244 = .ok (.bipush (-4), 2) := by decide +kernel
theorem dX9_ask_246 : decode cX9_ask 246 = .ok (.goto 24, 3) := by decide +kernel
theorem dX9_ask_249 : decode cX9_ask 249 = .ok (.iload_n 2, 1) := by decide +kernel
theorem dX9_ask_250 : decode cX9_ask 250 = .ok (.ifCond .ne 18, 3) := by decide +kernel
theorem dX9_ask_253 : decode cX9_ask 253 = .ok (.bipush 10, 2) := by decide +kernel
theorem dX9_ask_255 : decode cX9_ask 255 = .ok (.iload 5, 2) := by decide +kernel
theorem dX9_ask_257 : decode cX9_ask 257 = .ok (.iconst 5, 1) := by decide +kernel
theorem dX9_ask_258 : decode cX9_ask 258 = .ok (.idiv, 1) := by decide +kernel
theorem dX9_ask_259 : decode cX9_ask 259 = .ok (.imul, 1) := by decide +kernel
theorem dX9_ask_260 : decode cX9_ask 260 = .ok (.iload 5, 2) := by decide +kernel
theorem dX9_ask_262 : decode cX9_ask 262 = .ok (.iconst 5, 1) := by decide +kernel
theorem dX9_ask_263 : decode cX9_ask 263 = .ok (.irem, 1) := by decide +kernel
theorem dX9_ask_264 : decode cX9_ask 264 = .ok (.iadd, 1) := by decide +kernel
theorem dX9_ask_265 : decode cX9_ask 265 = .ok (.goto 5, 3) := by decide +kernel
theorem dX9_ask_268 : decode cX9_ask 268 = .ok (.iload 4, 2) := by decide +kernel
theorem dX9_ask_270 : decode cX9_ask 270 = .ok (.ireturn, 1) := by decide +kernel
def f_X9_ask_L45 (Λ : List Ly) (p0 : Nat) (v1 : Int32) (v2 : Int32) (v3 : Int32) (v4 : Int32) (k79 : Int32 → Dt → Option (Int32 × Dt)) : Nat → Int32 → Dt → Option (Int32 × Dt)
  | 0, _, _ => none
  | n + 1, v5, d => if (155 : Int32) ≤ v5 then (k79 v5 d) else (Option.bind (rf Λ p0 9 19) fun q8 => Option.bind (rf Λ p0 9 18) fun q9 => if okA Λ q9 1 v5 = true then (if okA Λ q8 1 (((155 : Int32) * v3) + v5) = true then (f_X9_ask_L45 Λ p0 v1 v2 v3 v4 k79 n (v5 + (1 : Int32)) (pI d q8 ((((155 : Int32) * v3) + v5)).toNatClampNeg (d.1 q9 (v5).toNatClampNeg))) else none) else none)
def f_X9_ask_L21 (Λ : List Ly) (p0 : Nat) (v1 : Int32) (v2 : Int32) (k88 : Int32 → Int32 → Dt → Option (Int32 × Dt)) : Nat → Int32 → Int32 → Dt → Option (Int32 × Dt)
  | 0, _, _, _ => none
  | n + 1, v3, v4, d => if (9 : Int32) < v4 then (k88 v3 v4 d) else (if clsAt Λ p0 = some 9 then (Option.bind (f_X9_isSoWith Λ d p0 (((3 : Int32) * v1) + (1 : Int32)) v4) fun z5 => if z5.1 = 0 then (f_X9_ask_L21 Λ p0 v1 v2 k88 n v3 (v4 + (1 : Int32)) z5.2) else (f_X9_ask_L45 Λ p0 v1 v2 v3 v4 (fun x12_5 d12 => f_X9_ask_L21 Λ p0 v1 v2 k88 n (v3 + (1 : Int32)) (v4 + (1 : Int32)) d12) FU (0 : Int32) z5.2)) else none)
def f_X9_ask_L124 (Λ : List Ly) (d : Dt) (p0 : Nat) (v2 : Int32) (v3 : Int32) (v4 : Int32) (v5 : Int32) (v6 : Int32) (v7 : Int32) (v8 : Int32) (k180 : Int32 → Int32 → Option (Int32 × Dt)) : Nat → Int32 → Int32 → Option (Int32 × Dt)
  | 0, _, _ => none
  | n + 1, v9, v10 => if v3 ≤ v10 then (k180 v9 v10) else (Option.bind (rf Λ p0 9 19) fun q17 => if okA Λ q17 1 (((155 : Int32) * v8) + v6) = true then (if okA Λ q17 1 (((155 : Int32) * v10) + v6) = true then (if (d.1 q17 ((((155 : Int32) * v8) + v6)).toNatClampNeg) = (d.1 q17 ((((155 : Int32) * v10) + v6)).toNatClampNeg) then (f_X9_ask_L124 Λ d p0 v2 v3 v4 v5 v6 v7 v8 k180 n (v9 + (f_X9_flag (1 : Int32))) (v10 + (1 : Int32))) else (f_X9_ask_L124 Λ d p0 v2 v3 v4 v5 v6 v7 v8 k180 n (v9 + (f_X9_flag (0 : Int32))) (v10 + (1 : Int32)))) else none) else none)
def f_X9_ask_L112 (Λ : List Ly) (d : Dt) (p0 : Nat) (v2 : Int32) (v3 : Int32) (v4 : Int32) (v5 : Int32) (v6 : Int32) (k202 : Int32 → Int32 → Option (Int32 × Dt)) : Nat → Int32 → Int32 → Option (Int32 × Dt)
  | 0, _, _ => none
  | n + 1, v7, v8 => if v3 ≤ v8 then (k202 v7 v8) else (f_X9_ask_L124 Λ d p0 v2 v3 v4 v5 v6 v7 v8 (fun x21_9 x21_10 => if x21_9 ≤ v7 then (f_X9_ask_L112 Λ d p0 v2 v3 v4 v5 v6 k202 n v7 (v8 + (1 : Int32))) else (f_X9_ask_L112 Λ d p0 v2 v3 v4 v5 v6 k202 n x21_9 (v8 + (1 : Int32)))) FU (0 : Int32) (0 : Int32))
def f_X9_ask_L98 (Λ : List Ly) (d : Dt) (p0 : Nat) (v2 : Int32) (v3 : Int32) (k237 : Int32 → Int32 → Int32 → Option (Int32 × Dt)) : Nat → Int32 → Int32 → Int32 → Option (Int32 × Dt)
  | 0, _, _, _ => none
  | n + 1, v4, v5, v6 => if (155 : Int32) ≤ v6 then (k237 v4 v5 v6) else (f_X9_ask_L112 Λ d p0 v2 v3 v4 v5 v6 (fun x23_7 x23_8 => Option.bind (rf Λ p0 9 0) fun q24 => if okA Λ q24 1 (37 : Int32) = true then (if (d.1 q24 ((37 : Int32)).toNatClampNeg) ≤ (v6 - v6 / (5 : Int32) * (5 : Int32)) then (f_X9_ask_L98 Λ d p0 v2 v3 k237 n v4 v5 (v6 + (1 : Int32))) else (if v4 ≤ x23_7 then (f_X9_ask_L98 Λ d p0 v2 v3 k237 n v4 v5 (v6 + (1 : Int32))) else (f_X9_ask_L98 Λ d p0 v2 v3 k237 n x23_7 v6 (v6 + (1 : Int32))))) else none) FU (0 : Int32) (0 : Int32))
def f_X9_ask (Λ : List Ly) (d : Dt) (p0 : Nat) (v1 : Int32) (v2 : Int32) : Option (Int32 × Dt) := if (f_X9_isSeason v1) = 0 then (some ((-1 : Int32), d)) else (if (f_X9_isPart v2) = 0 then (some ((-1 : Int32), d)) else (f_X9_ask_L21 Λ p0 v1 v2 (fun x13_3 x13_4 d13 => f_X9_ask_L98 Λ d13 p0 v2 x13_3 (fun x28_4 x28_5 x28_6 => if x28_5 = (-4 : Int32) then (some ((-4 : Int32), d13)) else (if v2 = 0 then (some ((((10 : Int32) * (x28_5 / (5 : Int32))) + (x28_5 - x28_5 / (5 : Int32) * (5 : Int32))), d13)) else (some (x28_4, d13)))) FU x13_3 (-4 : Int32) (0 : Int32)) FU (0 : Int32) (0 : Int32) d))
set_option maxHeartbeats 4000000 in
set_option maxRecDepth 100000 in
theorem w_X9_ask_L45 {p : Program} {l : Launch} {e : Env} {s : State} {m : MethodId} {args : Array Value} {below : List Frame} {meth : Method} {c : Code} {Γ : Cx} {Λ : List Ly} {z : Int32 × Dt} (C0 : Ct Γ p s m args c cX9_ask 11 "SeasonBoundModel") (hr : meth.sig.returnType = (some FieldType.int)) (hlocks : meth.locks = false) (k79 : Int32 → Dt → Option (Int32 × Dt)) (p0 : Nat) (v1 : Int32) (v2 : Int32) (v3 : Int32) (v4 : Int32)
    (hk79 : ∀ (v5 : Int32) (d : Dt), (k79 v5 d = some z) → ∀ (H : Heap) (locs : List Loc) (ls : Array Slot), Hs Γ Λ d s H locs → lv_has ls 11 [(0, .ref (ad Γ.2.2.1 p0)), (1, .int v1), (2, .int v2), (3, .int v3), (4, .int v4), (5, .int v5)] → W p l e { frames := 6, cells := 0, slots := 0, locals := 134 } s m args below meth c H locs 0 0 (MQ below (QN Γ Λ z.2 (some (.int z.1))) args s 0 0 (AP Γ)) (F0 m 79 ls [])) :
    ∀ (n : Nat) (v5 : Int32) (d : Dt), f_X9_ask_L45 Λ p0 v1 v2 v3 v4 k79 n v5 d = some z → ∀ (H : Heap) (locs : List Loc) (ls : Array Slot), Hs Γ Λ d s H locs → lv_has ls 11 [(0, .ref (ad Γ.2.2.1 p0)), (1, .int v1), (2, .int v2), (3, .int v3), (4, .int v4), (5, .int v5)] → W p l e { frames := 6, cells := 0, slots := 0, locals := 134 } s m args below meth c H locs 0 0 (MQ below (QN Γ Λ z.2 (some (.int z.1))) args s 0 0 (AP Γ)) (F0 m 45 ls []) := by
  obtain ⟨hx, hb, hml, hown, hts, hK⟩ := id C0
  intro n
  induction n with
  | zero =>
    intro v5 d hf
    cases hf
  | succ n ih =>
    intro v5 d hf H locs ls hH hl
    unfold f_X9_ask_L45 at hf
    refine lv_iload hx hb dX9_ask_45 (lv_at hl 5 rfl) ?_
    refine lv_sipush (v := (155 : Int32)) hx hb dX9_ask_47 (by decide) ?_
    refine lv_icmp_ge (tgt := 79) hx hb dX9_ask_50 (by decide) (fun c7 => ?_) (fun c7 => ?_)
    · replace hf := it hf c7
      exact hk79 v5 d hf _ _ _ hH (lv_sub hl [0, 1, 2, 3, 4, 5] rfl)
    · replace hf := ie hf c7
      refine lv_aload_n hx hb dX9_ask_53 rfl (lv_at hl 0 rfl) ?_
      obtain ⟨q8, g8, hf⟩ := ob hf
      refine r_getr C0 hH fl_X9_29 g8 dX9_ask_54 ?_
      refine lv_sipush (v := (155 : Int32)) hx hb dX9_ask_57 (by decide) ?_
      refine lv_iload_n hx hb dX9_ask_60 rfl (lv_at hl 3 rfl) ?_
      refine lv_imul hx hb dX9_ask_61 ?_
      refine lv_iload hx hb dX9_ask_62 (lv_at hl 5 rfl) ?_
      refine lv_iadd hx hb dX9_ask_64 ?_
      refine lv_aload_n hx hb dX9_ask_65 rfl (lv_at hl 0 rfl) ?_
      obtain ⟨q9, g9, hf⟩ := ob hf
      refine r_getr C0 hH fl_X9_26 g9 dX9_ask_66 ?_
      refine lv_iload hx hb dX9_ask_69 (lv_at hl 5 rfl) ?_
      obtain ⟨g10, hf⟩ := gd hf
      refine r_iald C0 hH g10 dX9_ask_71 ?_
      obtain ⟨g11, hf⟩ := gd hf
      refine r_iast C0 hH g11 dX9_ask_72 (fun H locs hH => ?_)
      refine lv_iinc (v := (v5 + (1 : Int32))) (lv' := [(5, .int (v5 + (1 : Int32))), (0, .ref (ad Γ.2.2.1 p0)), (1, .int v1), (2, .int v2), (3, .int v3), (4, .int v4)]) hx hb dX9_ask_73 hl (k := 5) rfl (congrArg (fun w => v5 + w) (by decide)) (by decide) rfl (fun ls hl => ?_)
      refine lv_goto (tgt := 45) hx hb dX9_ask_76 (by decide) ?_
      exact ih (v5 + (1 : Int32)) (pI d q8 ((((155 : Int32) * v3) + v5)).toNatClampNeg (d.1 q9 (v5).toNatClampNeg)) hf _ _ _ hH (lv_sub hl [1, 2, 3, 4, 5, 0] rfl)
set_option maxHeartbeats 4000000 in
set_option maxRecDepth 100000 in
theorem w_X9_ask_L21 {p : Program} {l : Launch} {e : Env} {s : State} {m : MethodId} {args : Array Value} {below : List Frame} {meth : Method} {c : Code} {Γ : Cx} {Λ : List Ly} {z : Int32 × Dt} (C0 : Ct Γ p s m args c cX9_ask 11 "SeasonBoundModel") (hr : meth.sig.returnType = (some FieldType.int)) (hlocks : meth.locks = false) (k88 : Int32 → Int32 → Dt → Option (Int32 × Dt)) (p0 : Nat) (v1 : Int32) (v2 : Int32)
    (hk88 : ∀ (v3 : Int32) (v4 : Int32) (d : Dt), (k88 v3 v4 d = some z) → ∀ (H : Heap) (locs : List Loc) (ls : Array Slot), Hs Γ Λ d s H locs → lv_has ls 11 [(0, .ref (ad Γ.2.2.1 p0)), (1, .int v1), (2, .int v2), (3, .int v3), (4, .int v4)] → W p l e { frames := 6, cells := 0, slots := 0, locals := 134 } s m args below meth c H locs 0 0 (MQ below (QN Γ Λ z.2 (some (.int z.1))) args s 0 0 (AP Γ)) (F0 m 88 ls [])) :
    ∀ (n : Nat) (v3 : Int32) (v4 : Int32) (d : Dt), f_X9_ask_L21 Λ p0 v1 v2 k88 n v3 v4 d = some z → ∀ (H : Heap) (locs : List Loc) (ls : Array Slot), Hs Γ Λ d s H locs → lv_has ls 11 [(0, .ref (ad Γ.2.2.1 p0)), (1, .int v1), (2, .int v2), (3, .int v3), (4, .int v4)] → W p l e { frames := 6, cells := 0, slots := 0, locals := 134 } s m args below meth c H locs 0 0 (MQ below (QN Γ Λ z.2 (some (.int z.1))) args s 0 0 (AP Γ)) (F0 m 21 ls []) := by
  obtain ⟨hx, hb, hml, hown, hts, hK⟩ := id C0
  intro n
  induction n with
  | zero =>
    intro v3 v4 d hf
    cases hf
  | succ n ih =>
    intro v3 v4 d hf H locs ls hH hl
    unfold f_X9_ask_L21 at hf
    refine lv_iload hx hb dX9_ask_21 (lv_at hl 4 rfl) ?_
    refine lv_bipush (v := (9 : Int32)) hx hb dX9_ask_23 (by decide) ?_
    refine lv_icmp_gt (tgt := 88) hx hb dX9_ask_25 (by decide) (fun c3 => ?_) (fun c3 => ?_)
    · replace hf := it hf c3
      exact hk88 v3 v4 d hf _ _ _ hH (lv_sub hl [0, 1, 2, 3, 4] rfl)
    · replace hf := ie hf c3
      refine lv_aload_n hx hb dX9_ask_28 rfl (lv_at hl 0 rfl) ?_
      refine lv_iconst (v := (3 : Int32)) hx hb dX9_ask_29 (by decide) ?_
      refine lv_iload_n hx hb dX9_ask_30 rfl (lv_at hl 1 rfl) ?_
      refine lv_imul hx hb dX9_ask_31 ?_
      refine lv_iconst (v := (1 : Int32)) hx hb dX9_ask_32 (by decide) ?_
      refine lv_iadd hx hb dX9_ask_33 ?_
      refine lv_iload hx hb dX9_ask_34 (lv_at hl 4 rfl) ?_
      obtain ⟨g4, hf⟩ := gd hf
      obtain ⟨z5, h5, hf⟩ := ob hf
      refine r_callVi (rest := []) C0 hH (c_X9_isSoWith Γ l Λ d p0 (((3 : Int32) * v1) + (1 : Int32)) v4 z5 h5) cv_X9_269 g4 (by decide) rfl hl.1 rfl (Nat.le_of_ble_eq_true rfl) dX9_ask_36 (by decide) (fun H locs hH => ?_)
      refine lv_if_eq (tgt := 82) hx hb dX9_ask_39 (by decide) (fun c6 => ?_) (fun c6 => ?_)
      · replace hf := it hf c6
        refine lv_iinc (v := (v4 + (1 : Int32))) (lv' := [(4, .int (v4 + (1 : Int32))), (0, .ref (ad Γ.2.2.1 p0)), (1, .int v1), (2, .int v2), (3, .int v3)]) hx hb dX9_ask_82 hl (k := 4) rfl (congrArg (fun w => v4 + w) (by decide)) (by decide) rfl (fun ls hl => ?_)
        refine lv_goto (tgt := 21) hx hb dX9_ask_85 (by decide) ?_
        exact ih v3 (v4 + (1 : Int32)) z5.2 hf _ _ _ hH (lv_sub hl [1, 2, 3, 4, 0] rfl)
      · replace hf := ie hf c6
        refine lv_iconst (v := (0 : Int32)) hx hb dX9_ask_42 (by decide) ?_
        refine lv_istore (lv' := [(5, .int (0 : Int32)), (0, .ref (ad Γ.2.2.1 p0)), (1, .int v1), (2, .int v2), (3, .int v3), (4, .int v4)]) hx hb dX9_ask_43 hl (by decide) rfl (fun ls hl => ?_)
        refine w_X9_ask_L45 C0 hr hlocks _ p0 v1 v2 v3 v4 ?k79 FU (0 : Int32) z5.2 hf _ _ _ hH (lv_sub hl [1, 2, 3, 4, 5, 0] rfl)
        case k79 =>
          intro x12_5 d12 hf H locs ls hH hl
          refine lv_iinc (v := (v3 + (1 : Int32))) (lv' := [(3, .int (v3 + (1 : Int32))), (0, .ref (ad Γ.2.2.1 p0)), (1, .int v1), (2, .int v2), (4, .int v4), (5, .int x12_5)]) hx hb dX9_ask_79 hl (k := 3) rfl (congrArg (fun w => v3 + w) (by decide)) (by decide) rfl (fun ls hl => ?_)
          refine lv_iinc (v := (v4 + (1 : Int32))) (lv' := [(4, .int (v4 + (1 : Int32))), (3, .int (v3 + (1 : Int32))), (0, .ref (ad Γ.2.2.1 p0)), (1, .int v1), (2, .int v2), (5, .int x12_5)]) hx hb dX9_ask_82 hl (k := 4) rfl (congrArg (fun w => v4 + w) (by decide)) (by decide) rfl (fun ls hl => ?_)
          refine lv_goto (tgt := 21) hx hb dX9_ask_85 (by decide) ?_
          exact ih (v3 + (1 : Int32)) (v4 + (1 : Int32)) d12 hf _ _ _ hH (lv_sub hl [2, 3, 4, 1, 0] rfl)
set_option maxHeartbeats 4000000 in
set_option maxRecDepth 100000 in
theorem w_X9_ask_L124 {p : Program} {l : Launch} {e : Env} {s : State} {m : MethodId} {args : Array Value} {below : List Frame} {meth : Method} {c : Code} {Γ : Cx} {Λ : List Ly} {z : Int32 × Dt} {d : Dt} (C0 : Ct Γ p s m args c cX9_ask 11 "SeasonBoundModel") (hr : meth.sig.returnType = (some FieldType.int)) (hlocks : meth.locks = false) (k180 : Int32 → Int32 → Option (Int32 × Dt)) (p0 : Nat) (v2 : Int32) (v3 : Int32) (v4 : Int32) (v5 : Int32) (v6 : Int32) (v7 : Int32) (v8 : Int32)
    (hk180 : ∀ (v9 : Int32) (v10 : Int32), (k180 v9 v10 = some z) → ∀ (H : Heap) (locs : List Loc) (ls : Array Slot), Hs Γ Λ d s H locs → lv_has ls 11 [(0, .ref (ad Γ.2.2.1 p0)), (2, .int v2), (3, .int v3), (4, .int v4), (5, .int v5), (6, .int v6), (7, .int v7), (8, .int v8), (9, .int v9), (10, .int v10)] → W p l e { frames := 6, cells := 0, slots := 0, locals := 134 } s m args below meth c H locs 0 0 (MQ below (QN Γ Λ z.2 (some (.int z.1))) args s 0 0 (AP Γ)) (F0 m 180 ls [])) :
    ∀ (n : Nat) (v9 : Int32) (v10 : Int32), f_X9_ask_L124 Λ d p0 v2 v3 v4 v5 v6 v7 v8 k180 n v9 v10 = some z → ∀ (H : Heap) (locs : List Loc) (ls : Array Slot), Hs Γ Λ d s H locs → lv_has ls 11 [(0, .ref (ad Γ.2.2.1 p0)), (2, .int v2), (3, .int v3), (4, .int v4), (5, .int v5), (6, .int v6), (7, .int v7), (8, .int v8), (9, .int v9), (10, .int v10)] → W p l e { frames := 6, cells := 0, slots := 0, locals := 134 } s m args below meth c H locs 0 0 (MQ below (QN Γ Λ z.2 (some (.int z.1))) args s 0 0 (AP Γ)) (F0 m 124 ls []) := by
  obtain ⟨hx, hb, hml, hown, hts, hK⟩ := id C0
  intro n
  induction n with
  | zero =>
    intro v9 v10 hf
    cases hf
  | succ n ih =>
    intro v9 v10 hf H locs ls hH hl
    unfold f_X9_ask_L124 at hf
    refine lv_iload hx hb dX9_ask_124 (lv_at hl 9 rfl) ?_
    refine lv_iload_n hx hb dX9_ask_126 rfl (lv_at hl 2 rfl) ?_
    refine lv_icmp_ge (tgt := 180) hx hb dX9_ask_127 (by decide) (fun c16 => ?_) (fun c16 => ?_)
    · replace hf := it hf c16
      exact hk180 v9 v10 hf _ _ _ hH (lv_sub hl [0, 1, 2, 3, 4, 5, 6, 7, 8, 9] rfl)
    · replace hf := ie hf c16
      refine lv_iload hx hb dX9_ask_130 (lv_at hl 8 rfl) ?_
      refine lv_aload_n hx hb dX9_ask_132 rfl (lv_at hl 0 rfl) ?_
      obtain ⟨q17, g17, hf⟩ := ob hf
      refine r_getr C0 hH fl_X9_29 g17 dX9_ask_133 ?_
      refine lv_sipush (v := (155 : Int32)) hx hb dX9_ask_136 (by decide) ?_
      refine lv_iload hx hb dX9_ask_139 (lv_at hl 7 rfl) ?_
      refine lv_imul hx hb dX9_ask_141 ?_
      refine lv_iload hx hb dX9_ask_142 (lv_at hl 5 rfl) ?_
      refine lv_iadd hx hb dX9_ask_144 ?_
      obtain ⟨g18, hf⟩ := gd hf
      refine r_iald C0 hH g18 dX9_ask_145 ?_
      refine lv_aload_n hx hb dX9_ask_146 rfl (lv_at hl 0 rfl) ?_
      refine r_getr C0 hH fl_X9_29 g17 dX9_ask_147 ?_
      refine lv_sipush (v := (155 : Int32)) hx hb dX9_ask_150 (by decide) ?_
      refine lv_iload hx hb dX9_ask_153 (lv_at hl 9 rfl) ?_
      refine lv_imul hx hb dX9_ask_155 ?_
      refine lv_iload hx hb dX9_ask_156 (lv_at hl 5 rfl) ?_
      refine lv_iadd hx hb dX9_ask_158 ?_
      obtain ⟨g19, hf⟩ := gd hf
      refine r_iald C0 hH g19 dX9_ask_159 ?_
      refine lv_icmp_ne (tgt := 167) hx hb dX9_ask_160 (by decide) (fun c20 => ?_) (fun c20 => ?_)
      · replace hf := ie hf c20
        refine lv_iconst (v := (0 : Int32)) hx hb dX9_ask_167 (by decide) ?_
        refine r_callSi (rest := [.int v9]) C0 hH (c_X9_flag Γ l Λ d (0 : Int32)) cs_X9_146 (by decide) rfl hl.1 rfl (Nat.le_of_ble_eq_true rfl) dX9_ask_168 (by decide) (fun H locs hH => ?_)
        refine lv_iadd hx hb dX9_ask_171 ?_
        refine lv_istore (lv' := [(9, .int (v9 + (f_X9_flag (0 : Int32)))), (0, .ref (ad Γ.2.2.1 p0)), (2, .int v2), (3, .int v3), (4, .int v4), (5, .int v5), (6, .int v6), (7, .int v7), (8, .int v8), (10, .int v10)]) hx hb dX9_ask_172 hl (by decide) rfl (fun ls hl => ?_)
        refine lv_iinc (v := (v10 + (1 : Int32))) (lv' := [(10, .int (v10 + (1 : Int32))), (9, .int (v9 + (f_X9_flag (0 : Int32)))), (0, .ref (ad Γ.2.2.1 p0)), (2, .int v2), (3, .int v3), (4, .int v4), (5, .int v5), (6, .int v6), (7, .int v7), (8, .int v8)]) hx hb dX9_ask_174 hl (k := 9) rfl (congrArg (fun w => v10 + w) (by decide)) (by decide) rfl (fun ls hl => ?_)
        refine lv_goto (tgt := 124) hx hb dX9_ask_177 (by decide) ?_
        exact ih (v9 + (f_X9_flag (0 : Int32))) (v10 + (1 : Int32)) hf _ _ _ hH (lv_sub hl [2, 3, 4, 5, 6, 7, 8, 9, 1, 0] rfl)
      · replace hf := it hf c20
        refine lv_iconst (v := (1 : Int32)) hx hb dX9_ask_163 (by decide) ?_
        refine lv_goto (tgt := 168) hx hb dX9_ask_164 (by decide) ?_
        refine r_callSi (rest := [.int v9]) C0 hH (c_X9_flag Γ l Λ d (1 : Int32)) cs_X9_146 (by decide) rfl hl.1 rfl (Nat.le_of_ble_eq_true rfl) dX9_ask_168 (by decide) (fun H locs hH => ?_)
        refine lv_iadd hx hb dX9_ask_171 ?_
        refine lv_istore (lv' := [(9, .int (v9 + (f_X9_flag (1 : Int32)))), (0, .ref (ad Γ.2.2.1 p0)), (2, .int v2), (3, .int v3), (4, .int v4), (5, .int v5), (6, .int v6), (7, .int v7), (8, .int v8), (10, .int v10)]) hx hb dX9_ask_172 hl (by decide) rfl (fun ls hl => ?_)
        refine lv_iinc (v := (v10 + (1 : Int32))) (lv' := [(10, .int (v10 + (1 : Int32))), (9, .int (v9 + (f_X9_flag (1 : Int32)))), (0, .ref (ad Γ.2.2.1 p0)), (2, .int v2), (3, .int v3), (4, .int v4), (5, .int v5), (6, .int v6), (7, .int v7), (8, .int v8)]) hx hb dX9_ask_174 hl (k := 9) rfl (congrArg (fun w => v10 + w) (by decide)) (by decide) rfl (fun ls hl => ?_)
        refine lv_goto (tgt := 124) hx hb dX9_ask_177 (by decide) ?_
        exact ih (v9 + (f_X9_flag (1 : Int32))) (v10 + (1 : Int32)) hf _ _ _ hH (lv_sub hl [2, 3, 4, 5, 6, 7, 8, 9, 1, 0] rfl)
set_option maxHeartbeats 4000000 in
set_option maxRecDepth 100000 in
theorem w_X9_ask_L112 {p : Program} {l : Launch} {e : Env} {s : State} {m : MethodId} {args : Array Value} {below : List Frame} {meth : Method} {c : Code} {Γ : Cx} {Λ : List Ly} {z : Int32 × Dt} {d : Dt} (C0 : Ct Γ p s m args c cX9_ask 11 "SeasonBoundModel") (hr : meth.sig.returnType = (some FieldType.int)) (hlocks : meth.locks = false) (k202 : Int32 → Int32 → Option (Int32 × Dt)) (p0 : Nat) (v2 : Int32) (v3 : Int32) (v4 : Int32) (v5 : Int32) (v6 : Int32)
    (hk202 : ∀ (v7 : Int32) (v8 : Int32), (k202 v7 v8 = some z) → ∀ (H : Heap) (locs : List Loc) (ls : Array Slot), Hs Γ Λ d s H locs → lv_has ls 11 [(0, .ref (ad Γ.2.2.1 p0)), (2, .int v2), (3, .int v3), (4, .int v4), (5, .int v5), (6, .int v6), (7, .int v7), (8, .int v8)] → W p l e { frames := 6, cells := 0, slots := 0, locals := 134 } s m args below meth c H locs 0 0 (MQ below (QN Γ Λ z.2 (some (.int z.1))) args s 0 0 (AP Γ)) (F0 m 202 ls [])) :
    ∀ (n : Nat) (v7 : Int32) (v8 : Int32), f_X9_ask_L112 Λ d p0 v2 v3 v4 v5 v6 k202 n v7 v8 = some z → ∀ (H : Heap) (locs : List Loc) (ls : Array Slot), Hs Γ Λ d s H locs → lv_has ls 11 [(0, .ref (ad Γ.2.2.1 p0)), (2, .int v2), (3, .int v3), (4, .int v4), (5, .int v5), (6, .int v6), (7, .int v7), (8, .int v8)] → W p l e { frames := 6, cells := 0, slots := 0, locals := 134 } s m args below meth c H locs 0 0 (MQ below (QN Γ Λ z.2 (some (.int z.1))) args s 0 0 (AP Γ)) (F0 m 112 ls []) := by
  obtain ⟨hx, hb, hml, hown, hts, hK⟩ := id C0
  intro n
  induction n with
  | zero =>
    intro v7 v8 hf
    cases hf
  | succ n ih =>
    intro v7 v8 hf H locs ls hH hl
    unfold f_X9_ask_L112 at hf
    refine lv_iload hx hb dX9_ask_112 (lv_at hl 7 rfl) ?_
    refine lv_iload_n hx hb dX9_ask_114 rfl (lv_at hl 2 rfl) ?_
    refine lv_icmp_ge (tgt := 202) hx hb dX9_ask_115 (by decide) (fun c15 => ?_) (fun c15 => ?_)
    · replace hf := it hf c15
      exact hk202 v7 v8 hf _ _ _ hH (lv_sub hl [0, 1, 2, 3, 4, 5, 6, 7] rfl)
    · replace hf := ie hf c15
      refine lv_iconst (v := (0 : Int32)) hx hb dX9_ask_118 (by decide) ?_
      refine lv_istore (lv' := [(9, .int (0 : Int32)), (0, .ref (ad Γ.2.2.1 p0)), (2, .int v2), (3, .int v3), (4, .int v4), (5, .int v5), (6, .int v6), (7, .int v7), (8, .int v8)]) hx hb dX9_ask_119 hl (by decide) rfl (fun ls hl => ?_)
      refine lv_iconst (v := (0 : Int32)) hx hb dX9_ask_121 (by decide) ?_
      refine lv_istore (lv' := [(10, .int (0 : Int32)), (9, .int (0 : Int32)), (0, .ref (ad Γ.2.2.1 p0)), (2, .int v2), (3, .int v3), (4, .int v4), (5, .int v5), (6, .int v6), (7, .int v7), (8, .int v8)]) hx hb dX9_ask_122 hl (by decide) rfl (fun ls hl => ?_)
      refine w_X9_ask_L124 C0 hr hlocks _ p0 v2 v3 v4 v5 v6 v7 v8 ?k180 FU (0 : Int32) (0 : Int32) hf _ _ _ hH (lv_sub hl [2, 3, 4, 5, 6, 7, 8, 9, 1, 0] rfl)
      case k180 =>
        intro x21_9 x21_10 hf H locs ls hH hl
        refine lv_iload hx hb dX9_ask_180 (lv_at hl 8 rfl) ?_
        refine lv_iload hx hb dX9_ask_182 (lv_at hl 6 rfl) ?_
        refine lv_icmp_le (tgt := 192) hx hb dX9_ask_184 (by decide) (fun c22 => ?_) (fun c22 => ?_)
        · replace hf := it hf c22
          refine lv_iload hx hb dX9_ask_192 (lv_at hl 6 rfl) ?_
          refine lv_istore (lv' := [(7, .int v7), (0, .ref (ad Γ.2.2.1 p0)), (2, .int v2), (3, .int v3), (4, .int v4), (5, .int v5), (6, .int v6), (8, .int v8), (9, .int x21_9), (10, .int x21_10)]) hx hb dX9_ask_194 hl (by decide) rfl (fun ls hl => ?_)
          refine lv_iinc (v := (v8 + (1 : Int32))) (lv' := [(8, .int (v8 + (1 : Int32))), (7, .int v7), (0, .ref (ad Γ.2.2.1 p0)), (2, .int v2), (3, .int v3), (4, .int v4), (5, .int v5), (6, .int v6), (9, .int x21_9), (10, .int x21_10)]) hx hb dX9_ask_196 hl (k := 7) rfl (congrArg (fun w => v8 + w) (by decide)) (by decide) rfl (fun ls hl => ?_)
          refine lv_goto (tgt := 112) hx hb dX9_ask_199 (by decide) ?_
          exact ih v7 (v8 + (1 : Int32)) hf _ _ _ hH (lv_sub hl [2, 3, 4, 5, 6, 7, 1, 0] rfl)
        · replace hf := ie hf c22
          refine lv_iload hx hb dX9_ask_187 (lv_at hl 8 rfl) ?_
          refine lv_goto (tgt := 194) hx hb dX9_ask_189 (by decide) ?_
          refine lv_istore (lv' := [(7, .int x21_9), (0, .ref (ad Γ.2.2.1 p0)), (2, .int v2), (3, .int v3), (4, .int v4), (5, .int v5), (6, .int v6), (8, .int v8), (9, .int x21_9), (10, .int x21_10)]) hx hb dX9_ask_194 hl (by decide) rfl (fun ls hl => ?_)
          refine lv_iinc (v := (v8 + (1 : Int32))) (lv' := [(8, .int (v8 + (1 : Int32))), (7, .int x21_9), (0, .ref (ad Γ.2.2.1 p0)), (2, .int v2), (3, .int v3), (4, .int v4), (5, .int v5), (6, .int v6), (9, .int x21_9), (10, .int x21_10)]) hx hb dX9_ask_196 hl (k := 7) rfl (congrArg (fun w => v8 + w) (by decide)) (by decide) rfl (fun ls hl => ?_)
          refine lv_goto (tgt := 112) hx hb dX9_ask_199 (by decide) ?_
          exact ih x21_9 (v8 + (1 : Int32)) hf _ _ _ hH (lv_sub hl [2, 3, 4, 5, 6, 7, 1, 0] rfl)
set_option maxHeartbeats 4000000 in
set_option maxRecDepth 100000 in
theorem w_X9_ask_L98 {p : Program} {l : Launch} {e : Env} {s : State} {m : MethodId} {args : Array Value} {below : List Frame} {meth : Method} {c : Code} {Γ : Cx} {Λ : List Ly} {z : Int32 × Dt} {d : Dt} (C0 : Ct Γ p s m args c cX9_ask 11 "SeasonBoundModel") (hr : meth.sig.returnType = (some FieldType.int)) (hlocks : meth.locks = false) (k237 : Int32 → Int32 → Int32 → Option (Int32 × Dt)) (p0 : Nat) (v2 : Int32) (v3 : Int32)
    (hk237 : ∀ (v4 : Int32) (v5 : Int32) (v6 : Int32), (k237 v4 v5 v6 = some z) → ∀ (H : Heap) (locs : List Loc) (ls : Array Slot), Hs Γ Λ d s H locs → lv_has ls 11 [(0, .ref (ad Γ.2.2.1 p0)), (2, .int v2), (3, .int v3), (4, .int v4), (5, .int v5), (6, .int v6)] → W p l e { frames := 6, cells := 0, slots := 0, locals := 134 } s m args below meth c H locs 0 0 (MQ below (QN Γ Λ z.2 (some (.int z.1))) args s 0 0 (AP Γ)) (F0 m 237 ls [])) :
    ∀ (n : Nat) (v4 : Int32) (v5 : Int32) (v6 : Int32), f_X9_ask_L98 Λ d p0 v2 v3 k237 n v4 v5 v6 = some z → ∀ (H : Heap) (locs : List Loc) (ls : Array Slot), Hs Γ Λ d s H locs → lv_has ls 11 [(0, .ref (ad Γ.2.2.1 p0)), (2, .int v2), (3, .int v3), (4, .int v4), (5, .int v5), (6, .int v6)] → W p l e { frames := 6, cells := 0, slots := 0, locals := 134 } s m args below meth c H locs 0 0 (MQ below (QN Γ Λ z.2 (some (.int z.1))) args s 0 0 (AP Γ)) (F0 m 98 ls []) := by
  obtain ⟨hx, hb, hml, hown, hts, hK⟩ := id C0
  intro n
  induction n with
  | zero =>
    intro v4 v5 v6 hf
    cases hf
  | succ n ih =>
    intro v4 v5 v6 hf H locs ls hH hl
    unfold f_X9_ask_L98 at hf
    refine lv_iload hx hb dX9_ask_98 (lv_at hl 5 rfl) ?_
    refine lv_sipush (v := (155 : Int32)) hx hb dX9_ask_100 (by decide) ?_
    refine lv_icmp_ge (tgt := 237) hx hb dX9_ask_103 (by decide) (fun c14 => ?_) (fun c14 => ?_)
    · replace hf := it hf c14
      exact hk237 v4 v5 v6 hf _ _ _ hH (lv_sub hl [0, 1, 2, 3, 4, 5] rfl)
    · replace hf := ie hf c14
      refine lv_iconst (v := (0 : Int32)) hx hb dX9_ask_106 (by decide) ?_
      refine lv_istore (lv' := [(7, .int (0 : Int32)), (0, .ref (ad Γ.2.2.1 p0)), (2, .int v2), (3, .int v3), (4, .int v4), (5, .int v5), (6, .int v6)]) hx hb dX9_ask_107 hl (by decide) rfl (fun ls hl => ?_)
      refine lv_iconst (v := (0 : Int32)) hx hb dX9_ask_109 (by decide) ?_
      refine lv_istore (lv' := [(8, .int (0 : Int32)), (7, .int (0 : Int32)), (0, .ref (ad Γ.2.2.1 p0)), (2, .int v2), (3, .int v3), (4, .int v4), (5, .int v5), (6, .int v6)]) hx hb dX9_ask_110 hl (by decide) rfl (fun ls hl => ?_)
      refine w_X9_ask_L112 C0 hr hlocks _ p0 v2 v3 v4 v5 v6 ?k202 FU (0 : Int32) (0 : Int32) hf _ _ _ hH (lv_sub hl [2, 3, 4, 5, 6, 7, 1, 0] rfl)
      case k202 =>
        intro x23_7 x23_8 hf H locs ls hH hl
        refine lv_iload hx hb dX9_ask_202 (lv_at hl 5 rfl) ?_
        refine lv_iconst (v := (5 : Int32)) hx hb dX9_ask_204 (by decide) ?_
        refine lv_irem hx hb dX9_ask_205 (by decide) ?_
        refine lv_aload_n hx hb dX9_ask_206 rfl (lv_at hl 0 rfl) ?_
        obtain ⟨q24, g24, hf⟩ := ob hf
        refine r_getr C0 hH fl_X9_7 g24 dX9_ask_207 ?_
        refine lv_bipush (v := (37 : Int32)) hx hb dX9_ask_210 (by decide) ?_
        obtain ⟨g25, hf⟩ := gd hf
        refine r_iald C0 hH g25 dX9_ask_212 ?_
        refine lv_icmp_ge (tgt := 231) hx hb dX9_ask_213 (by decide) (fun c26 => ?_) (fun c26 => ?_)
        · replace hf := it hf c26
          refine lv_iinc (v := (v6 + (1 : Int32))) (lv' := [(6, .int (v6 + (1 : Int32))), (0, .ref (ad Γ.2.2.1 p0)), (2, .int v2), (3, .int v3), (4, .int v4), (5, .int v5), (7, .int x23_7), (8, .int x23_8)]) hx hb dX9_ask_231 hl (k := 5) rfl (congrArg (fun w => v6 + w) (by decide)) (by decide) rfl (fun ls hl => ?_)
          refine lv_goto (tgt := 98) hx hb dX9_ask_234 (by decide) ?_
          exact ih v4 v5 (v6 + (1 : Int32)) hf _ _ _ hH (lv_sub hl [1, 2, 3, 4, 5, 0] rfl)
        · replace hf := ie hf c26
          refine lv_iload hx hb dX9_ask_216 (lv_at hl 6 rfl) ?_
          refine lv_iload hx hb dX9_ask_218 (lv_at hl 3 rfl) ?_
          refine lv_icmp_ge (tgt := 231) hx hb dX9_ask_220 (by decide) (fun c27 => ?_) (fun c27 => ?_)
          · replace hf := it hf c27
            refine lv_iinc (v := (v6 + (1 : Int32))) (lv' := [(6, .int (v6 + (1 : Int32))), (0, .ref (ad Γ.2.2.1 p0)), (2, .int v2), (3, .int v3), (4, .int v4), (5, .int v5), (7, .int x23_7), (8, .int x23_8)]) hx hb dX9_ask_231 hl (k := 5) rfl (congrArg (fun w => v6 + w) (by decide)) (by decide) rfl (fun ls hl => ?_)
            refine lv_goto (tgt := 98) hx hb dX9_ask_234 (by decide) ?_
            exact ih v4 v5 (v6 + (1 : Int32)) hf _ _ _ hH (lv_sub hl [1, 2, 3, 4, 5, 0] rfl)
          · replace hf := ie hf c27
            refine lv_iload hx hb dX9_ask_223 (lv_at hl 6 rfl) ?_
            refine lv_istore (lv' := [(4, .int x23_7), (0, .ref (ad Γ.2.2.1 p0)), (2, .int v2), (3, .int v3), (5, .int v5), (6, .int v6), (7, .int x23_7), (8, .int x23_8)]) hx hb dX9_ask_225 hl (by decide) rfl (fun ls hl => ?_)
            refine lv_iload hx hb dX9_ask_227 (lv_at hl 5 rfl) ?_
            refine lv_istore (lv' := [(5, .int v6), (4, .int x23_7), (0, .ref (ad Γ.2.2.1 p0)), (2, .int v2), (3, .int v3), (6, .int v6), (7, .int x23_7), (8, .int x23_8)]) hx hb dX9_ask_229 hl (by decide) rfl (fun ls hl => ?_)
            refine lv_iinc (v := (v6 + (1 : Int32))) (lv' := [(6, .int (v6 + (1 : Int32))), (5, .int v6), (4, .int x23_7), (0, .ref (ad Γ.2.2.1 p0)), (2, .int v2), (3, .int v3), (7, .int x23_7), (8, .int x23_8)]) hx hb dX9_ask_231 hl (k := 5) rfl (congrArg (fun w => v6 + w) (by decide)) (by decide) rfl (fun ls hl => ?_)
            refine lv_goto (tgt := 98) hx hb dX9_ask_234 (by decide) ?_
            exact ih x23_7 v6 (v6 + (1 : Int32)) hf _ _ _ hH (lv_sub hl [3, 4, 5, 2, 1, 0] rfl)
set_option maxHeartbeats 4000000 in
set_option maxRecDepth 100000 in
theorem c_X9_ask (Γ : Cx) (l : Launch) (Λ : List Ly) (d : Dt) (p0 : Nat) (v1 : Int32) (v2 : Int32) (z : Int32 × Dt) (hf : f_X9_ask Λ d p0 v1 v2 = some z) : Cn Γ l yX9_ask cX9_ask 11 (some FieldType.int) 6 134 [.ref (ad Γ.2.2.1 p0), .int v1, .int v2] Λ d (some (.int z.1)) z.2 := by
  refine Cn.of (own := "SeasonBoundModel") (by decide +kernel) rfl (Nat.le_of_ble_eq_true rfl) ?_
  intro p e s m below meth c C0 hr hlocks hH ls hl
  have hl : lv_has ls 11 [(0, .ref (ad Γ.2.2.1 p0)), (1, .int v1), (2, .int v2)] := hl
  obtain ⟨hx, hb, hml, hown, hts, hK⟩ := id C0
  unfold f_X9_ask at hf
  refine lv_iload_n hx hb dX9_ask_0 rfl (lv_at hl 1 rfl) ?_
  refine r_callSi (rest := []) C0 hH (c_X9_isSeason Γ l Λ d v1) cs_X9_185 (by decide) rfl hl.1 rfl (Nat.le_of_ble_eq_true rfl) dX9_ask_1 (by decide) (fun H locs hH => ?_)
  refine lv_if_eq (tgt := 14) hx hb dX9_ask_4 (by decide) (fun c1 => ?_) (fun c1 => ?_)
  · replace hf := it hf c1
    refine lv_iconst (v := (-1 : Int32)) hx hb dX9_ask_14 (by decide) ?_
    obtain rfl := Option.some.inj hf
    exact r_iret (d' := d) C0 hr hlocks hH rfl dX9_ask_15
  · replace hf := ie hf c1
    refine lv_iload_n hx hb dX9_ask_7 rfl (lv_at hl 2 rfl) ?_
    refine r_callSi (rest := []) C0 hH (c_X9_isPart Γ l Λ d v2) cs_X9_228 (by decide) rfl hl.1 rfl (Nat.le_of_ble_eq_true rfl) dX9_ask_8 (by decide) (fun H locs hH => ?_)
    refine lv_if_ne (tgt := 16) hx hb dX9_ask_11 (by decide) (fun c2 => ?_) (fun c2 => ?_)
    · replace hf := ie hf c2
      refine lv_iconst (v := (0 : Int32)) hx hb dX9_ask_16 (by decide) ?_
      refine lv_istore_n (lv' := [(3, .int (0 : Int32)), (0, .ref (ad Γ.2.2.1 p0)), (1, .int v1), (2, .int v2)]) hx hb dX9_ask_17 rfl hl (by decide) rfl (fun ls hl => ?_)
      refine lv_iconst (v := (0 : Int32)) hx hb dX9_ask_18 (by decide) ?_
      refine lv_istore (lv' := [(4, .int (0 : Int32)), (3, .int (0 : Int32)), (0, .ref (ad Γ.2.2.1 p0)), (1, .int v1), (2, .int v2)]) hx hb dX9_ask_19 hl (by decide) rfl (fun ls hl => ?_)
      refine w_X9_ask_L21 C0 hr hlocks _ p0 v1 v2 ?k88 FU (0 : Int32) (0 : Int32) d hf _ _ _ hH (lv_sub hl [2, 3, 4, 1, 0] rfl)
      case k88 =>
        intro x13_3 x13_4 d13 hf H locs ls hH hl
        refine lv_iload_n hx hb dX9_ask_88 rfl (lv_at hl 3 rfl) ?_
        refine lv_istore (lv' := [(4, .int x13_3), (0, .ref (ad Γ.2.2.1 p0)), (1, .int v1), (2, .int v2), (3, .int x13_3)]) hx hb dX9_ask_89 hl (by decide) rfl (fun ls hl => ?_)
        refine lv_bipush (v := (-4 : Int32)) hx hb dX9_ask_91 (by decide) ?_
        refine lv_istore (lv' := [(5, .int (-4 : Int32)), (4, .int x13_3), (0, .ref (ad Γ.2.2.1 p0)), (1, .int v1), (2, .int v2), (3, .int x13_3)]) hx hb dX9_ask_93 hl (by decide) rfl (fun ls hl => ?_)
        refine lv_iconst (v := (0 : Int32)) hx hb dX9_ask_95 (by decide) ?_
        refine lv_istore (lv' := [(6, .int (0 : Int32)), (5, .int (-4 : Int32)), (4, .int x13_3), (0, .ref (ad Γ.2.2.1 p0)), (1, .int v1), (2, .int v2), (3, .int x13_3)]) hx hb dX9_ask_96 hl (by decide) rfl (fun ls hl => ?_)
        refine w_X9_ask_L98 C0 hr hlocks _ p0 v2 x13_3 ?k237 FU x13_3 (-4 : Int32) (0 : Int32) hf _ _ _ hH (lv_sub hl [3, 5, 6, 2, 1, 0] rfl)
        case k237 =>
          intro x28_4 x28_5 x28_6 hf H locs ls hH hl
          refine lv_iload hx hb dX9_ask_237 (lv_at hl 4 rfl) ?_
          refine lv_bipush (v := (-4 : Int32)) hx hb dX9_ask_239 (by decide) ?_
          refine lv_icmp_ne (tgt := 249) hx hb dX9_ask_241 (by decide) (fun c29 => ?_) (fun c29 => ?_)
          · replace hf := ie hf c29
            refine lv_iload_n hx hb dX9_ask_249 rfl (lv_at hl 1 rfl) ?_
            refine lv_if_ne (tgt := 268) hx hb dX9_ask_250 (by decide) (fun c30 => ?_) (fun c30 => ?_)
            · replace hf := ie hf c30
              refine lv_iload hx hb dX9_ask_268 (lv_at hl 3 rfl) ?_
              obtain rfl := Option.some.inj hf
              exact r_iret (d' := d) C0 hr hlocks hH rfl dX9_ask_270
            · replace hf := it hf c30
              refine lv_bipush (v := (10 : Int32)) hx hb dX9_ask_253 (by decide) ?_
              refine lv_iload hx hb dX9_ask_255 (lv_at hl 4 rfl) ?_
              refine lv_iconst (v := (5 : Int32)) hx hb dX9_ask_257 (by decide) ?_
              refine lv_idiv hx hb dX9_ask_258 (by decide) ?_
              refine lv_imul hx hb dX9_ask_259 ?_
              refine lv_iload hx hb dX9_ask_260 (lv_at hl 4 rfl) ?_
              refine lv_iconst (v := (5 : Int32)) hx hb dX9_ask_262 (by decide) ?_
              refine lv_irem hx hb dX9_ask_263 (by decide) ?_
              refine lv_iadd hx hb dX9_ask_264 ?_
              refine lv_goto (tgt := 270) hx hb dX9_ask_265 (by decide) ?_
              obtain rfl := Option.some.inj hf
              exact r_iret (d' := d) C0 hr hlocks hH rfl dX9_ask_270
          · replace hf := it hf c29
            refine lv_bipush (v := (-4 : Int32)) hx hb dX9_ask_244 (by decide) ?_
            refine lv_goto (tgt := 270) hx hb dX9_ask_246 (by decide) ?_
            obtain rfl := Option.some.inj hf
            exact r_iret (d' := d) C0 hr hlocks hH rfl dX9_ask_270
    · replace hf := it hf c2
      refine lv_iconst (v := (-1 : Int32)) hx hb dX9_ask_14 (by decide) ?_
      obtain rfl := Option.some.inj hf
      exact r_iret (d' := d) C0 hr hlocks hH rfl dX9_ask_15
theorem dX9_drift_0 : decode cX9_drift 0 = .ok (.iload_n 2, 1) := by decide +kernel
theorem dX9_drift_1 : decode cX9_drift 1 = .ok (.i2l, 1) := by decide +kernel
theorem dX9_drift_2 : decode cX9_drift 2 = .ok (.lconst 1, 1) := by decide +kernel
theorem dX9_drift_3 : decode cX9_drift 3 = .ok (.ldc2_w 210, 3) := by decide +kernel
theorem dX9_drift_6 : decode cX9_drift 6 = .ok (.invokestatic 56, 3) := by decide +kernel
theorem dX9_drift_9 : decode cX9_drift 9 = .ok (.ifCond .eq 10, 3) := by decide +kernel
theorem dX9_drift_12 : decode cX9_drift 12 = .ok (.iload_n 3, 1) := by decide +kernel
theorem dX9_drift_13 : decode cX9_drift 13 = .ok (.invokestatic 228, 3) := by decide +kernel
theorem dX9_drift_16 : decode cX9_drift 16 = .ok (.ifCond .ne 5, 3) := by decide +kernel
theorem dX9_drift_19 : decode cX9_drift 19 = .ok (.iconst (-1), 1) := by decide +kernel
theorem dX9_drift_20 : decode cX9_drift 20 = .ok (.ireturn, 1) := by decide +kernel
theorem dX9_drift_21 : decode cX9_drift 21 = .ok (.aload_n 0, 1) := by decide +kernel
theorem dX9_drift_22 : decode cX9_drift 22 = .ok (.getfield 7, 3) := by decide +kernel
theorem dX9_drift_25 : decode cX9_drift 25 = .ok (.bipush 37, 2) := by decide +kernel
theorem dX9_drift_27 : decode cX9_drift 27 = .ok (.iaload, 1) := by decide +kernel
theorem dX9_drift_28 : decode cX9_drift 28 = .ok (.ifCond .ne 6, 3) := by decide +kernel
theorem dX9_drift_31 : decode cX9_drift 31 = .ok (.bipush (-2), 2) := by decide +kernel
theorem dX9_drift_33 : decode cX9_drift 33 = .ok (.ireturn, 1) := by decide +kernel
theorem dX9_drift_34 : decode cX9_drift 34 = .ok (.iload_n 1, 1) := by decide +kernel
theorem dX9_drift_35 : decode cX9_drift 35 = .ok (.istore 4, 2) := by decide +kernel
theorem dX9_drift_37 : decode cX9_drift 37 = .ok (.aload_n 0, 1) := by decide +kernel
theorem dX9_drift_38 : decode cX9_drift 38 = .ok (.invokevirtual 177, 3) := by decide +kernel
theorem dX9_drift_41 : decode cX9_drift 41 = .ok (.iconst 0, 1) := by decide +kernel
theorem dX9_drift_42 : decode cX9_drift 42 = .ok (.istore 5, 2) := by decide +kernel
theorem dX9_drift_44 : decode cX9_drift 44 = .ok (.iload 5, 2) := by decide +kernel
theorem dX9_drift_46 : decode cX9_drift 46 = .ok (.iload_n 2, 1) := by decide +kernel
theorem dX9_drift_47 : decode cX9_drift 47 = .ok (.if_icmp .ge 89, 3) := by decide +kernel
theorem dX9_drift_50 : decode cX9_drift 50 = .ok (.iload 4, 2) := by decide +kernel
theorem dX9_drift_52 : decode cX9_drift 52 = .ok (.ldc_w 275, 3) := by decide +kernel
theorem dX9_drift_55 : decode cX9_drift 55 = .ok (.imul, 1) := by decide +kernel
theorem dX9_drift_56 : decode cX9_drift 56 = .ok (.sipush 12345, 3) := by decide +kernel
theorem dX9_drift_59 : decode cX9_drift 59 = .ok (.iadd, 1) := by decide +kernel
theorem dX9_drift_60 : decode cX9_drift 60 = .ok (.istore 4, 2) := by decide +kernel
theorem dX9_drift_62 : decode cX9_drift 62 = .ok (.iload 4, 2) := by decide +kernel
theorem dX9_drift_64 : decode cX9_drift 64 = .ok (.bipush 16, 2) := by decide +kernel
theorem dX9_drift_66 : decode cX9_drift 66 = .ok (.ishr, 1) := by decide +kernel
theorem dX9_drift_67 : decode cX9_drift 67 = .ok (.sipush 32767, 3) := by decide +kernel
theorem dX9_drift_70 : decode cX9_drift 70 = .ok (.iand, 1) := by decide +kernel
theorem dX9_drift_71 : decode cX9_drift 71 = .ok (.istore 6, 2) := by decide +kernel
theorem dX9_drift_73 : decode cX9_drift 73 = .ok (.iload 6, 2) := by decide +kernel
theorem dX9_drift_75 : decode cX9_drift 75 = .ok (.aload_n 0, 1) := by decide +kernel
theorem dX9_drift_76 : decode cX9_drift 76 = .ok (.getfield 7, 3) := by decide +kernel
theorem dX9_drift_79 : decode cX9_drift 79 = .ok (.bipush 37, 2) := by decide +kernel
theorem dX9_drift_81 : decode cX9_drift 81 = .ok (.iaload, 1) := by decide +kernel
theorem dX9_drift_82 : decode cX9_drift 82 = .ok (.irem, 1) := by decide +kernel
theorem dX9_drift_83 : decode cX9_drift 83 = .ok (.istore 7, 2) := by decide +kernel
theorem dX9_drift_85 : decode cX9_drift 85 = .ok (.aload_n 0, 1) := by decide +kernel
theorem dX9_drift_86 : decode cX9_drift 86 = .ok (.iload 7, 2) := by decide +kernel
theorem dX9_drift_88 : decode cX9_drift 88 = .ok (.invokevirtual 139, 3) := by decide +kernel
theorem dX9_drift_91 : decode cX9_drift 91 = .ok (.ifCond .eq 34, 3) := by decide +kernel
theorem dX9_drift_94 : decode cX9_drift 94 = .ok (.aload_n 0, 1) := by decide +kernel
theorem dX9_drift_95 : decode cX9_drift 95 = .ok (.iload 7, 2) := by decide +kernel
theorem dX9_drift_97 : decode cX9_drift 97 = .ok (.iconst 1, 1) := by decide +kernel
theorem dX9_drift_98 : decode cX9_drift 98 = .ok (.iload 6, 2) := by decide +kernel
theorem dX9_drift_100 : decode cX9_drift 100 = .ok (.bipush 8, 2) := by decide +kernel
theorem dX9_drift_102 : decode cX9_drift 102 = .ok (.idiv, 1) := by decide +kernel
theorem dX9_drift_103 : decode cX9_drift 103 = .ok (.iconst 4, 1) := by decide +kernel
theorem dX9_drift_104 : decode cX9_drift 104 = .ok (.irem, 1) := by decide +kernel
theorem dX9_drift_105 : decode cX9_drift 105 = .ok (.invokevirtual 153, 3) := by decide +kernel
theorem dX9_drift_108 : decode cX9_drift 108 = .ok (.aload_n 0, 1) := by decide +kernel
theorem dX9_drift_109 : decode cX9_drift 109 = .ok (.iload 7, 2) := by decide +kernel
theorem dX9_drift_111 : decode cX9_drift 111 = .ok (.iconst 2, 1) := by decide +kernel
theorem dX9_drift_112 : decode cX9_drift 112 = .ok (.iconst 1, 1) := by decide +kernel
theorem dX9_drift_113 : decode cX9_drift 113 = .ok (.iload 6, 2) := by decide +kernel
theorem dX9_drift_115 : decode cX9_drift 115 = .ok (.bipush 32, 2) := by decide +kernel
theorem dX9_drift_117 : decode cX9_drift 117 = .ok (.idiv, 1) := by decide +kernel
theorem dX9_drift_118 : decode cX9_drift 118 = .ok (.bipush 9, 2) := by decide +kernel
theorem dX9_drift_120 : decode cX9_drift 120 = .ok (.irem, 1) := by decide +kernel
theorem dX9_drift_121 : decode cX9_drift 121 = .ok (.iadd, 1) := by decide +kernel
theorem dX9_drift_122 : decode cX9_drift 122 = .ok (.invokevirtual 153, 3) := by decide +kernel
theorem dX9_drift_125 : decode cX9_drift 125 = .ok (.aload_n 0, 1) := by decide +kernel
theorem dX9_drift_126 : decode cX9_drift 126 = .ok (.iconst 0, 1) := by decide +kernel
theorem dX9_drift_127 : decode cX9_drift 127 = .ok (.invokevirtual 167, 3) := by decide +kernel
theorem dX9_drift_130 : decode cX9_drift 130 = .ok (.iinc 5 1, 3) := by decide +kernel
theorem dX9_drift_133 : decode cX9_drift 133 = .ok (.goto (-89), 3) := by decide +kernel
theorem dX9_drift_136 : decode cX9_drift 136 = .ok (.iload_n 3, 1) := by decide +kernel
theorem dX9_drift_137 : decode cX9_drift 137 = .ok (.ifCond .ne 11, 3) := by decide +kernel
theorem dX9_drift_140 : decode cX9_drift 140 = .ok (.aload_n 0, 1) := by decide +kernel
theorem dX9_drift_141 : decode cX9_drift 141 = .ok (.iconst 3, 1) := by decide +kernel
theorem dX9_drift_142 : decode cX9_drift 142 = .ok (.invokevirtual 174, 3) := by decide +kernel
theorem dX9_drift_145 : decode cX9_drift 145 = .ok (.goto 8, 3) := by decide +kernel
theorem dX9_drift_148 : decode cX9_drift 148 = .ok (.aload_n 0, 1) := by decide +kernel
theorem dX9_drift_149 : decode cX9_drift 149 = .ok (.iconst 4, 1) := by decide +kernel
theorem dX9_drift_150 : decode cX9_drift 150 = .ok (.invokevirtual 174, 3) := by decide +kernel
theorem dX9_drift_153 : decode cX9_drift 153 = .ok (.ireturn, 1) := by decide +kernel
def f_X9_drift_L44 (Λ : List Ly) (p0 : Nat) (v2 : Int32) (v3 : Int32) : Nat → Int32 → Int32 → Dt → Option (Int32 × Dt)
  | 0, _, _, _ => none
  | n + 1, v4, v5, d => if v2 ≤ v5 then (if v3 = 0 then (if clsAt Λ p0 = some 9 then (Option.bind (f_X9_sumOf Λ d p0 (3 : Int32)) fun z13 => some (z13, d)) else none) else (if clsAt Λ p0 = some 9 then (Option.bind (f_X9_sumOf Λ d p0 (4 : Int32)) fun z11 => some (z11, d)) else none)) else (Option.bind (rf Λ p0 9 0) fun q14 => if okA Λ q14 1 (37 : Int32) = true then (if ¬ (d.1 q14 ((37 : Int32)).toNatClampNeg) = 0 then (if clsAt Λ p0 = some 9 then (Option.bind (f_X9_isFree Λ d p0 (((((v4 * (1103515245 : Int32)) + (12345 : Int32)) >>> ((16 : Int32) &&& 31)) &&& (32767 : Int32)) - ((((v4 * (1103515245 : Int32)) + (12345 : Int32)) >>> ((16 : Int32) &&& 31)) &&& (32767 : Int32)) / (d.1 q14 ((37 : Int32)).toNatClampNeg) * (d.1 q14 ((37 : Int32)).toNatClampNeg))) fun z18 => if z18 = 0 then (Option.bind (f_X9_weekGoes Λ d p0 (0 : Int32)) fun z20 => f_X9_drift_L44 Λ p0 v2 v3 n ((v4 * (1103515245 : Int32)) + (12345 : Int32)) (v5 + (1 : Int32)) z20) else (Option.bind (f_X9_becomesOf Λ d p0 (((((v4 * (1103515245 : Int32)) + (12345 : Int32)) >>> ((16 : Int32) &&& 31)) &&& (32767 : Int32)) - ((((v4 * (1103515245 : Int32)) + (12345 : Int32)) >>> ((16 : Int32) &&& 31)) &&& (32767 : Int32)) / (d.1 q14 ((37 : Int32)).toNatClampNeg) * (d.1 q14 ((37 : Int32)).toNatClampNeg)) (1 : Int32) ((((((v4 * (1103515245 : Int32)) + (12345 : Int32)) >>> ((16 : Int32) &&& 31)) &&& (32767 : Int32)) / (8 : Int32)) - (((((v4 * (1103515245 : Int32)) + (12345 : Int32)) >>> ((16 : Int32) &&& 31)) &&& (32767 : Int32)) / (8 : Int32)) / (4 : Int32) * (4 : Int32))) fun z21 => Option.bind (f_X9_becomesOf Λ z21 p0 (((((v4 * (1103515245 : Int32)) + (12345 : Int32)) >>> ((16 : Int32) &&& 31)) &&& (32767 : Int32)) - ((((v4 * (1103515245 : Int32)) + (12345 : Int32)) >>> ((16 : Int32) &&& 31)) &&& (32767 : Int32)) / (d.1 q14 ((37 : Int32)).toNatClampNeg) * (d.1 q14 ((37 : Int32)).toNatClampNeg)) (2 : Int32) ((1 : Int32) + ((((((v4 * (1103515245 : Int32)) + (12345 : Int32)) >>> ((16 : Int32) &&& 31)) &&& (32767 : Int32)) / (32 : Int32)) - (((((v4 * (1103515245 : Int32)) + (12345 : Int32)) >>> ((16 : Int32) &&& 31)) &&& (32767 : Int32)) / (32 : Int32)) / (9 : Int32) * (9 : Int32)))) fun z22 => Option.bind (f_X9_weekGoes Λ z22 p0 (0 : Int32)) fun z23 => f_X9_drift_L44 Λ p0 v2 v3 n ((v4 * (1103515245 : Int32)) + (12345 : Int32)) (v5 + (1 : Int32)) z23)) else none) else none) else none)
def f_X9_drift (Λ : List Ly) (d : Dt) (p0 : Nat) (v1 : Int32) (v2 : Int32) (v3 : Int32) : Option (Int32 × Dt) := if (f_X9_in (v2).toInt64 (1 : Int64) (60 : Int64)) = 0 then (some ((-1 : Int32), d)) else (if (f_X9_isPart v3) = 0 then (some ((-1 : Int32), d)) else (Option.bind (rf Λ p0 9 0) fun q3 => if okA Λ q3 1 (37 : Int32) = true then (if (d.1 q3 ((37 : Int32)).toNatClampNeg) = 0 then (some ((-2 : Int32), d)) else (if clsAt Λ p0 = some 9 then (Option.bind (f_X9_starts Λ d p0) fun z7 => f_X9_drift_L44 Λ p0 v2 v3 FU v1 (0 : Int32) z7) else none)) else none))
set_option maxHeartbeats 4000000 in
set_option maxRecDepth 100000 in
theorem w_X9_drift_L44 {p : Program} {l : Launch} {e : Env} {s : State} {m : MethodId} {args : Array Value} {below : List Frame} {meth : Method} {c : Code} {Γ : Cx} {Λ : List Ly} {z : Int32 × Dt} (C0 : Ct Γ p s m args c cX9_drift 8 "SeasonBoundModel") (hr : meth.sig.returnType = (some FieldType.int)) (hlocks : meth.locks = false) (p0 : Nat) (v2 : Int32) (v3 : Int32) :
    ∀ (n : Nat) (v4 : Int32) (v5 : Int32) (d : Dt), f_X9_drift_L44 Λ p0 v2 v3 n v4 v5 d = some z → ∀ (H : Heap) (locs : List Loc) (ls : Array Slot), Hs Γ Λ d s H locs → lv_has ls 8 [(0, .ref (ad Γ.2.2.1 p0)), (2, .int v2), (3, .int v3), (4, .int v4), (5, .int v5)] → W p l e { frames := 5, cells := 0, slots := 0, locals := 109 } s m args below meth c H locs 0 0 (MQ below (QN Γ Λ z.2 (some (.int z.1))) args s 0 0 (AP Γ)) (F0 m 44 ls []) := by
  obtain ⟨hx, hb, hml, hown, hts, hK⟩ := id C0
  intro n
  induction n with
  | zero =>
    intro v4 v5 d hf
    cases hf
  | succ n ih =>
    intro v4 v5 d hf H locs ls hH hl
    unfold f_X9_drift_L44 at hf
    refine lv_iload hx hb dX9_drift_44 (lv_at hl 4 rfl) ?_
    refine lv_iload_n hx hb dX9_drift_46 rfl (lv_at hl 1 rfl) ?_
    refine lv_icmp_ge (tgt := 136) hx hb dX9_drift_47 (by decide) (fun c8 => ?_) (fun c8 => ?_)
    · replace hf := it hf c8
      refine lv_iload_n hx hb dX9_drift_136 rfl (lv_at hl 2 rfl) ?_
      refine lv_if_ne (tgt := 148) hx hb dX9_drift_137 (by decide) (fun c9 => ?_) (fun c9 => ?_)
      · replace hf := ie hf c9
        refine lv_aload_n hx hb dX9_drift_148 rfl (lv_at hl 0 rfl) ?_
        refine lv_iconst (v := (4 : Int32)) hx hb dX9_drift_149 (by decide) ?_
        obtain ⟨g10, hf⟩ := gd hf
        obtain ⟨z11, h11, hf⟩ := ob hf
        refine r_callVi (rest := []) C0 hH (c_X9_sumOf Γ l Λ d p0 (4 : Int32) z11 h11) cv_X9_174 g10 (by decide) rfl hl.1 rfl (Nat.le_of_ble_eq_true rfl) dX9_drift_150 (by decide) (fun H locs hH => ?_)
        obtain rfl := Option.some.inj hf
        exact r_iret (d' := d) C0 hr hlocks hH rfl dX9_drift_153
      · replace hf := it hf c9
        refine lv_aload_n hx hb dX9_drift_140 rfl (lv_at hl 0 rfl) ?_
        refine lv_iconst (v := (3 : Int32)) hx hb dX9_drift_141 (by decide) ?_
        obtain ⟨g12, hf⟩ := gd hf
        obtain ⟨z13, h13, hf⟩ := ob hf
        refine r_callVi (rest := []) C0 hH (c_X9_sumOf Γ l Λ d p0 (3 : Int32) z13 h13) cv_X9_174 g12 (by decide) rfl hl.1 rfl (Nat.le_of_ble_eq_true rfl) dX9_drift_142 (by decide) (fun H locs hH => ?_)
        refine lv_goto (tgt := 153) hx hb dX9_drift_145 (by decide) ?_
        obtain rfl := Option.some.inj hf
        exact r_iret (d' := d) C0 hr hlocks hH rfl dX9_drift_153
    · replace hf := ie hf c8
      refine lv_iload hx hb dX9_drift_50 (lv_at hl 3 rfl) ?_
      refine lv_ldcw hx hb hown (hts _ kc_X9_275) dX9_drift_52 ?_
      refine lv_imul hx hb dX9_drift_55 ?_
      refine lv_sipush (v := (12345 : Int32)) hx hb dX9_drift_56 (by decide) ?_
      refine lv_iadd hx hb dX9_drift_59 ?_
      refine lv_istore (lv' := [(4, .int ((v4 * (1103515245 : Int32)) + (12345 : Int32))), (0, .ref (ad Γ.2.2.1 p0)), (2, .int v2), (3, .int v3), (5, .int v5)]) hx hb dX9_drift_60 hl (by decide) rfl (fun ls hl => ?_)
      refine lv_iload hx hb dX9_drift_62 (lv_at hl 0 rfl) ?_
      refine lv_bipush (v := (16 : Int32)) hx hb dX9_drift_64 (by decide) ?_
      refine lv_ishr hx hb dX9_drift_66 ?_
      refine lv_sipush (v := (32767 : Int32)) hx hb dX9_drift_67 (by decide) ?_
      refine lv_iand hx hb dX9_drift_70 ?_
      refine lv_istore (lv' := [(6, .int ((((v4 * (1103515245 : Int32)) + (12345 : Int32)) >>> ((16 : Int32) &&& 31)) &&& (32767 : Int32))), (4, .int ((v4 * (1103515245 : Int32)) + (12345 : Int32))), (0, .ref (ad Γ.2.2.1 p0)), (2, .int v2), (3, .int v3), (5, .int v5)]) hx hb dX9_drift_71 hl (by decide) rfl (fun ls hl => ?_)
      refine lv_iload hx hb dX9_drift_73 (lv_at hl 0 rfl) ?_
      refine lv_aload_n hx hb dX9_drift_75 rfl (lv_at hl 2 rfl) ?_
      obtain ⟨q14, g14, hf⟩ := ob hf
      refine r_getr C0 hH fl_X9_7 g14 dX9_drift_76 ?_
      refine lv_bipush (v := (37 : Int32)) hx hb dX9_drift_79 (by decide) ?_
      obtain ⟨g15, hf⟩ := gd hf
      refine r_iald C0 hH g15 dX9_drift_81 ?_
      obtain ⟨g16, hf⟩ := gd hf
      refine lv_irem hx hb dX9_drift_82 g16 ?_
      refine lv_istore (lv' := [(7, .int (((((v4 * (1103515245 : Int32)) + (12345 : Int32)) >>> ((16 : Int32) &&& 31)) &&& (32767 : Int32)) - ((((v4 * (1103515245 : Int32)) + (12345 : Int32)) >>> ((16 : Int32) &&& 31)) &&& (32767 : Int32)) / (d.1 q14 ((37 : Int32)).toNatClampNeg) * (d.1 q14 ((37 : Int32)).toNatClampNeg))), (6, .int ((((v4 * (1103515245 : Int32)) + (12345 : Int32)) >>> ((16 : Int32) &&& 31)) &&& (32767 : Int32))), (4, .int ((v4 * (1103515245 : Int32)) + (12345 : Int32))), (0, .ref (ad Γ.2.2.1 p0)), (2, .int v2), (3, .int v3), (5, .int v5)]) hx hb dX9_drift_83 hl (by decide) rfl (fun ls hl => ?_)
      refine lv_aload_n hx hb dX9_drift_85 rfl (lv_at hl 3 rfl) ?_
      refine lv_iload hx hb dX9_drift_86 (lv_at hl 0 rfl) ?_
      obtain ⟨g17, hf⟩ := gd hf
      obtain ⟨z18, h18, hf⟩ := ob hf
      refine r_callVi (rest := []) C0 hH (c_X9_isFree Γ l Λ d p0 (((((v4 * (1103515245 : Int32)) + (12345 : Int32)) >>> ((16 : Int32) &&& 31)) &&& (32767 : Int32)) - ((((v4 * (1103515245 : Int32)) + (12345 : Int32)) >>> ((16 : Int32) &&& 31)) &&& (32767 : Int32)) / (d.1 q14 ((37 : Int32)).toNatClampNeg) * (d.1 q14 ((37 : Int32)).toNatClampNeg)) z18 h18) cv_X9_139 g17 (by decide) rfl hl.1 rfl (Nat.le_of_ble_eq_true rfl) dX9_drift_88 (by decide) (fun H locs hH => ?_)
      refine lv_if_eq (tgt := 125) hx hb dX9_drift_91 (by decide) (fun c19 => ?_) (fun c19 => ?_)
      · replace hf := it hf c19
        refine lv_aload_n hx hb dX9_drift_125 rfl (lv_at hl 3 rfl) ?_
        refine lv_iconst (v := (0 : Int32)) hx hb dX9_drift_126 (by decide) ?_
        obtain ⟨z20, h20, hf⟩ := ob hf
        refine r_callVv (rest := []) C0 hH (c_X9_weekGoes Γ l Λ d p0 (0 : Int32) z20 h20) cv_X9_167 g17 (by decide) rfl hl.1 rfl (Nat.le_of_ble_eq_true rfl) dX9_drift_127 (by decide) (fun H locs hH => ?_)
        refine lv_iinc (v := (v5 + (1 : Int32))) (lv' := [(5, .int (v5 + (1 : Int32))), (7, .int (((((v4 * (1103515245 : Int32)) + (12345 : Int32)) >>> ((16 : Int32) &&& 31)) &&& (32767 : Int32)) - ((((v4 * (1103515245 : Int32)) + (12345 : Int32)) >>> ((16 : Int32) &&& 31)) &&& (32767 : Int32)) / (d.1 q14 ((37 : Int32)).toNatClampNeg) * (d.1 q14 ((37 : Int32)).toNatClampNeg))), (6, .int ((((v4 * (1103515245 : Int32)) + (12345 : Int32)) >>> ((16 : Int32) &&& 31)) &&& (32767 : Int32))), (4, .int ((v4 * (1103515245 : Int32)) + (12345 : Int32))), (0, .ref (ad Γ.2.2.1 p0)), (2, .int v2), (3, .int v3)]) hx hb dX9_drift_130 hl (k := 6) rfl (congrArg (fun w => v5 + w) (by decide)) (by decide) rfl (fun ls hl => ?_)
        refine lv_goto (tgt := 44) hx hb dX9_drift_133 (by decide) ?_
        exact ih ((v4 * (1103515245 : Int32)) + (12345 : Int32)) (v5 + (1 : Int32)) z20 hf _ _ _ hH (lv_sub hl [4, 5, 6, 3, 0] rfl)
      · replace hf := ie hf c19
        refine lv_aload_n hx hb dX9_drift_94 rfl (lv_at hl 3 rfl) ?_
        refine lv_iload hx hb dX9_drift_95 (lv_at hl 0 rfl) ?_
        refine lv_iconst (v := (1 : Int32)) hx hb dX9_drift_97 (by decide) ?_
        refine lv_iload hx hb dX9_drift_98 (lv_at hl 1 rfl) ?_
        refine lv_bipush (v := (8 : Int32)) hx hb dX9_drift_100 (by decide) ?_
        refine lv_idiv hx hb dX9_drift_102 (by decide) ?_
        refine lv_iconst (v := (4 : Int32)) hx hb dX9_drift_103 (by decide) ?_
        refine lv_irem hx hb dX9_drift_104 (by decide) ?_
        obtain ⟨z21, h21, hf⟩ := ob hf
        refine r_callVv (rest := []) C0 hH (c_X9_becomesOf Γ l Λ d p0 (((((v4 * (1103515245 : Int32)) + (12345 : Int32)) >>> ((16 : Int32) &&& 31)) &&& (32767 : Int32)) - ((((v4 * (1103515245 : Int32)) + (12345 : Int32)) >>> ((16 : Int32) &&& 31)) &&& (32767 : Int32)) / (d.1 q14 ((37 : Int32)).toNatClampNeg) * (d.1 q14 ((37 : Int32)).toNatClampNeg)) (1 : Int32) ((((((v4 * (1103515245 : Int32)) + (12345 : Int32)) >>> ((16 : Int32) &&& 31)) &&& (32767 : Int32)) / (8 : Int32)) - (((((v4 * (1103515245 : Int32)) + (12345 : Int32)) >>> ((16 : Int32) &&& 31)) &&& (32767 : Int32)) / (8 : Int32)) / (4 : Int32) * (4 : Int32)) z21 h21) cv_X9_153 g17 (by decide) rfl hl.1 rfl (Nat.le_of_ble_eq_true rfl) dX9_drift_105 (by decide) (fun H locs hH => ?_)
        refine lv_aload_n hx hb dX9_drift_108 rfl (lv_at hl 3 rfl) ?_
        refine lv_iload hx hb dX9_drift_109 (lv_at hl 0 rfl) ?_
        refine lv_iconst (v := (2 : Int32)) hx hb dX9_drift_111 (by decide) ?_
        refine lv_iconst (v := (1 : Int32)) hx hb dX9_drift_112 (by decide) ?_
        refine lv_iload hx hb dX9_drift_113 (lv_at hl 1 rfl) ?_
        refine lv_bipush (v := (32 : Int32)) hx hb dX9_drift_115 (by decide) ?_
        refine lv_idiv hx hb dX9_drift_117 (by decide) ?_
        refine lv_bipush (v := (9 : Int32)) hx hb dX9_drift_118 (by decide) ?_
        refine lv_irem hx hb dX9_drift_120 (by decide) ?_
        refine lv_iadd hx hb dX9_drift_121 ?_
        obtain ⟨z22, h22, hf⟩ := ob hf
        refine r_callVv (rest := []) C0 hH (c_X9_becomesOf Γ l Λ z21 p0 (((((v4 * (1103515245 : Int32)) + (12345 : Int32)) >>> ((16 : Int32) &&& 31)) &&& (32767 : Int32)) - ((((v4 * (1103515245 : Int32)) + (12345 : Int32)) >>> ((16 : Int32) &&& 31)) &&& (32767 : Int32)) / (d.1 q14 ((37 : Int32)).toNatClampNeg) * (d.1 q14 ((37 : Int32)).toNatClampNeg)) (2 : Int32) ((1 : Int32) + ((((((v4 * (1103515245 : Int32)) + (12345 : Int32)) >>> ((16 : Int32) &&& 31)) &&& (32767 : Int32)) / (32 : Int32)) - (((((v4 * (1103515245 : Int32)) + (12345 : Int32)) >>> ((16 : Int32) &&& 31)) &&& (32767 : Int32)) / (32 : Int32)) / (9 : Int32) * (9 : Int32))) z22 h22) cv_X9_153 g17 (by decide) rfl hl.1 rfl (Nat.le_of_ble_eq_true rfl) dX9_drift_122 (by decide) (fun H locs hH => ?_)
        refine lv_aload_n hx hb dX9_drift_125 rfl (lv_at hl 3 rfl) ?_
        refine lv_iconst (v := (0 : Int32)) hx hb dX9_drift_126 (by decide) ?_
        obtain ⟨z23, h23, hf⟩ := ob hf
        refine r_callVv (rest := []) C0 hH (c_X9_weekGoes Γ l Λ z22 p0 (0 : Int32) z23 h23) cv_X9_167 g17 (by decide) rfl hl.1 rfl (Nat.le_of_ble_eq_true rfl) dX9_drift_127 (by decide) (fun H locs hH => ?_)
        refine lv_iinc (v := (v5 + (1 : Int32))) (lv' := [(5, .int (v5 + (1 : Int32))), (7, .int (((((v4 * (1103515245 : Int32)) + (12345 : Int32)) >>> ((16 : Int32) &&& 31)) &&& (32767 : Int32)) - ((((v4 * (1103515245 : Int32)) + (12345 : Int32)) >>> ((16 : Int32) &&& 31)) &&& (32767 : Int32)) / (d.1 q14 ((37 : Int32)).toNatClampNeg) * (d.1 q14 ((37 : Int32)).toNatClampNeg))), (6, .int ((((v4 * (1103515245 : Int32)) + (12345 : Int32)) >>> ((16 : Int32) &&& 31)) &&& (32767 : Int32))), (4, .int ((v4 * (1103515245 : Int32)) + (12345 : Int32))), (0, .ref (ad Γ.2.2.1 p0)), (2, .int v2), (3, .int v3)]) hx hb dX9_drift_130 hl (k := 6) rfl (congrArg (fun w => v5 + w) (by decide)) (by decide) rfl (fun ls hl => ?_)
        refine lv_goto (tgt := 44) hx hb dX9_drift_133 (by decide) ?_
        exact ih ((v4 * (1103515245 : Int32)) + (12345 : Int32)) (v5 + (1 : Int32)) z23 hf _ _ _ hH (lv_sub hl [4, 5, 6, 3, 0] rfl)
set_option maxHeartbeats 4000000 in
set_option maxRecDepth 100000 in
theorem c_X9_drift (Γ : Cx) (l : Launch) (Λ : List Ly) (d : Dt) (p0 : Nat) (v1 : Int32) (v2 : Int32) (v3 : Int32) (z : Int32 × Dt) (hf : f_X9_drift Λ d p0 v1 v2 v3 = some z) : Cn Γ l yX9_drift cX9_drift 8 (some FieldType.int) 5 109 [.ref (ad Γ.2.2.1 p0), .int v1, .int v2, .int v3] Λ d (some (.int z.1)) z.2 := by
  refine Cn.of (own := "SeasonBoundModel") (by decide +kernel) rfl (Nat.le_of_ble_eq_true rfl) ?_
  intro p e s m below meth c C0 hr hlocks hH ls hl
  have hl : lv_has ls 8 [(0, .ref (ad Γ.2.2.1 p0)), (1, .int v1), (2, .int v2), (3, .int v3)] := hl
  obtain ⟨hx, hb, hml, hown, hts, hK⟩ := id C0
  unfold f_X9_drift at hf
  refine lv_iload_n hx hb dX9_drift_0 rfl (lv_at hl 2 rfl) ?_
  refine lv_i2l (v := (v2).toInt64) hx hb dX9_drift_1 rfl ?_
  refine lv_lconst (v := (1 : Int64)) hx hb dX9_drift_2 (by decide) ?_
  refine lv_ldc2 hx hb hown (hts _ kl_X9_210) dX9_drift_3 ?_
  refine r_callSi (rest := []) C0 hH (c_X9_in Γ l Λ d (v2).toInt64 (1 : Int64) (60 : Int64)) cs_X9_56 (by decide) rfl hl.1 rfl (Nat.le_of_ble_eq_true rfl) dX9_drift_6 (by decide) (fun H locs hH => ?_)
  refine lv_if_eq (tgt := 19) hx hb dX9_drift_9 (by decide) (fun c1 => ?_) (fun c1 => ?_)
  · replace hf := it hf c1
    refine lv_iconst (v := (-1 : Int32)) hx hb dX9_drift_19 (by decide) ?_
    obtain rfl := Option.some.inj hf
    exact r_iret (d' := d) C0 hr hlocks hH rfl dX9_drift_20
  · replace hf := ie hf c1
    refine lv_iload_n hx hb dX9_drift_12 rfl (lv_at hl 3 rfl) ?_
    refine r_callSi (rest := []) C0 hH (c_X9_isPart Γ l Λ d v3) cs_X9_228 (by decide) rfl hl.1 rfl (Nat.le_of_ble_eq_true rfl) dX9_drift_13 (by decide) (fun H locs hH => ?_)
    refine lv_if_ne (tgt := 21) hx hb dX9_drift_16 (by decide) (fun c2 => ?_) (fun c2 => ?_)
    · replace hf := ie hf c2
      refine lv_aload_n hx hb dX9_drift_21 rfl (lv_at hl 0 rfl) ?_
      obtain ⟨q3, g3, hf⟩ := ob hf
      refine r_getr C0 hH fl_X9_7 g3 dX9_drift_22 ?_
      refine lv_bipush (v := (37 : Int32)) hx hb dX9_drift_25 (by decide) ?_
      obtain ⟨g4, hf⟩ := gd hf
      refine r_iald C0 hH g4 dX9_drift_27 ?_
      refine lv_if_ne (tgt := 34) hx hb dX9_drift_28 (by decide) (fun c5 => ?_) (fun c5 => ?_)
      · replace hf := ie hf c5
        refine lv_iload_n hx hb dX9_drift_34 rfl (lv_at hl 1 rfl) ?_
        refine lv_istore (lv' := [(4, .int v1), (0, .ref (ad Γ.2.2.1 p0)), (1, .int v1), (2, .int v2), (3, .int v3)]) hx hb dX9_drift_35 hl (by decide) rfl (fun ls hl => ?_)
        refine lv_aload_n hx hb dX9_drift_37 rfl (lv_at hl 1 rfl) ?_
        obtain ⟨g6, hf⟩ := gd hf
        obtain ⟨z7, h7, hf⟩ := ob hf
        refine r_callVv (rest := []) C0 hH (c_X9_starts Γ l Λ d p0 z7 h7) cv_X9_177 g6 (by decide) rfl hl.1 rfl (Nat.le_of_ble_eq_true rfl) dX9_drift_38 (by decide) (fun H locs hH => ?_)
        refine lv_iconst (v := (0 : Int32)) hx hb dX9_drift_41 (by decide) ?_
        refine lv_istore (lv' := [(5, .int (0 : Int32)), (4, .int v1), (0, .ref (ad Γ.2.2.1 p0)), (1, .int v1), (2, .int v2), (3, .int v3)]) hx hb dX9_drift_42 hl (by decide) rfl (fun ls hl => ?_)
        refine w_X9_drift_L44 C0 hr hlocks p0 v2 v3 FU v1 (0 : Int32) z7 hf _ _ _ hH (lv_sub hl [2, 4, 5, 1, 0] rfl)
      · replace hf := it hf c5
        refine lv_bipush (v := (-2 : Int32)) hx hb dX9_drift_31 (by decide) ?_
        obtain rfl := Option.some.inj hf
        exact r_iret (d' := d) C0 hr hlocks hH rfl dX9_drift_33
    · replace hf := it hf c2
      refine lv_iconst (v := (-1 : Int32)) hx hb dX9_drift_19 (by decide) ?_
      obtain rfl := Option.some.inj hf
      exact r_iret (d' := d) C0 hr hlocks hH rfl dX9_drift_20
theorem dX9_copies_0 : decode cX9_copies 0 = .ok (.iconst 0, 1) := by decide +kernel
theorem dX9_copies_1 : decode cX9_copies 1 = .ok (.istore_n 3, 1) := by decide +kernel
theorem dX9_copies_2 : decode cX9_copies 2 = .ok (.iload_n 3, 1) := by decide +kernel
theorem dX9_copies_3 : decode cX9_copies 3 = .ok (.bipush 60, 2) := by decide +kernel
theorem dX9_copies_5 : decode cX9_copies 5 = .ok (.if_icmp .ge 25, 3) := by decide +kernel
theorem dX9_copies_8 : decode cX9_copies 8 = .ok (.aload_n 0, 1) := by decide +kernel
theorem dX9_copies_9 : decode cX9_copies 9 = .ok (.getfield 7, 3) := by decide +kernel
theorem dX9_copies_12 : decode cX9_copies 12 = .ok (.iload_n 1, 1) := by decide +kernel
theorem dX9_copies_13 : decode cX9_copies 13 = .ok (.iload_n 3, 1) := by decide +kernel
theorem dX9_copies_14 : decode cX9_copies 14 = .ok (.iadd, 1) := by decide +kernel
theorem dX9_copies_15 : decode cX9_copies 15 = .ok (.aload_n 0, 1) := by decide +kernel
theorem dX9_copies_16 : decode cX9_copies 16 = .ok (.getfield 7, 3) := by decide +kernel
theorem dX9_copies_19 : decode cX9_copies 19 = .ok (.iload_n 2, 1) := by decide +kernel
theorem dX9_copies_20 : decode cX9_copies 20 = .ok (.iload_n 3, 1) := by decide +kernel
theorem dX9_copies_21 : decode cX9_copies 21 = .ok (.iadd, 1) := by decide +kernel
theorem dX9_copies_22 : decode cX9_copies 22 = .ok (.iaload, 1) := by decide +kernel
theorem dX9_copies_23 : decode cX9_copies 23 = .ok (.iastore, 1) := by decide +kernel
theorem dX9_copies_24 : decode cX9_copies 24 = .ok (.iinc 3 1, 3) := by decide +kernel
theorem dX9_copies_27 : decode cX9_copies 27 = .ok (.goto (-25), 3) := by decide +kernel
theorem dX9_copies_30 : decode cX9_copies 30 = .ok (.return_, 1) := by decide +kernel
def f_X9_copies_L2 (Λ : List Ly) (p0 : Nat) (v1 : Int32) (v2 : Int32) : Nat → Int32 → Dt → Option Dt
  | 0, _, _ => none
  | n + 1, v3, d => if (60 : Int32) ≤ v3 then (some d) else (Option.bind (rf Λ p0 9 0) fun q2 => if okA Λ q2 1 (v2 + v3) = true then (if okA Λ q2 1 (v1 + v3) = true then (f_X9_copies_L2 Λ p0 v1 v2 n (v3 + (1 : Int32)) (pI d q2 ((v1 + v3)).toNatClampNeg (d.1 q2 ((v2 + v3)).toNatClampNeg))) else none) else none)
def f_X9_copies (Λ : List Ly) (d : Dt) (p0 : Nat) (v1 : Int32) (v2 : Int32) : Option Dt := f_X9_copies_L2 Λ p0 v1 v2 FU (0 : Int32) d
set_option maxHeartbeats 4000000 in
set_option maxRecDepth 100000 in
theorem w_X9_copies_L2 {p : Program} {l : Launch} {e : Env} {s : State} {m : MethodId} {args : Array Value} {below : List Frame} {meth : Method} {c : Code} {Γ : Cx} {Λ : List Ly} {z : Dt} (C0 : Ct Γ p s m args c cX9_copies 4 "SeasonBoundModel") (hr : meth.sig.returnType = none) (hlocks : meth.locks = false) (p0 : Nat) (v1 : Int32) (v2 : Int32) :
    ∀ (n : Nat) (v3 : Int32) (d : Dt), f_X9_copies_L2 Λ p0 v1 v2 n v3 d = some z → ∀ (H : Heap) (locs : List Loc) (ls : Array Slot), Hs Γ Λ d s H locs → lv_has ls 4 [(0, .ref (ad Γ.2.2.1 p0)), (1, .int v1), (2, .int v2), (3, .int v3)] → W p l e { frames := 0, cells := 0, slots := 0, locals := 0 } s m args below meth c H locs 0 0 (MQ below (QN Γ Λ z none) args s 0 0 (AP Γ)) (F0 m 2 ls []) := by
  obtain ⟨hx, hb, hml, hown, hts, hK⟩ := id C0
  intro n
  induction n with
  | zero =>
    intro v3 d hf
    cases hf
  | succ n ih =>
    intro v3 d hf H locs ls hH hl
    unfold f_X9_copies_L2 at hf
    refine lv_iload_n hx hb dX9_copies_2 rfl (lv_at hl 3 rfl) ?_
    refine lv_bipush (v := (60 : Int32)) hx hb dX9_copies_3 (by decide) ?_
    refine lv_icmp_ge (tgt := 30) hx hb dX9_copies_5 (by decide) (fun c1 => ?_) (fun c1 => ?_)
    · replace hf := it hf c1
      obtain rfl := Option.some.inj hf
      exact r_vret C0 hr hlocks hH dX9_copies_30
    · replace hf := ie hf c1
      refine lv_aload_n hx hb dX9_copies_8 rfl (lv_at hl 0 rfl) ?_
      obtain ⟨q2, g2, hf⟩ := ob hf
      refine r_getr C0 hH fl_X9_7 g2 dX9_copies_9 ?_
      refine lv_iload_n hx hb dX9_copies_12 rfl (lv_at hl 1 rfl) ?_
      refine lv_iload_n hx hb dX9_copies_13 rfl (lv_at hl 3 rfl) ?_
      refine lv_iadd hx hb dX9_copies_14 ?_
      refine lv_aload_n hx hb dX9_copies_15 rfl (lv_at hl 0 rfl) ?_
      refine r_getr C0 hH fl_X9_7 g2 dX9_copies_16 ?_
      refine lv_iload_n hx hb dX9_copies_19 rfl (lv_at hl 2 rfl) ?_
      refine lv_iload_n hx hb dX9_copies_20 rfl (lv_at hl 3 rfl) ?_
      refine lv_iadd hx hb dX9_copies_21 ?_
      obtain ⟨g3, hf⟩ := gd hf
      refine r_iald C0 hH g3 dX9_copies_22 ?_
      obtain ⟨g4, hf⟩ := gd hf
      refine r_iast C0 hH g4 dX9_copies_23 (fun H locs hH => ?_)
      refine lv_iinc (v := (v3 + (1 : Int32))) (lv' := [(3, .int (v3 + (1 : Int32))), (0, .ref (ad Γ.2.2.1 p0)), (1, .int v1), (2, .int v2)]) hx hb dX9_copies_24 hl (k := 3) rfl (congrArg (fun w => v3 + w) (by decide)) (by decide) rfl (fun ls hl => ?_)
      refine lv_goto (tgt := 2) hx hb dX9_copies_27 (by decide) ?_
      exact ih (v3 + (1 : Int32)) (pI d q2 ((v1 + v3)).toNatClampNeg (d.1 q2 ((v2 + v3)).toNatClampNeg)) hf _ _ _ hH (lv_sub hl [1, 2, 3, 0] rfl)
set_option maxHeartbeats 4000000 in
set_option maxRecDepth 100000 in
theorem c_X9_copies (Γ : Cx) (l : Launch) (Λ : List Ly) (d : Dt) (p0 : Nat) (v1 : Int32) (v2 : Int32) (z : Dt) (hf : f_X9_copies Λ d p0 v1 v2 = some z) : Cn Γ l yX9_copies cX9_copies 4 none 0 0 [.ref (ad Γ.2.2.1 p0), .int v1, .int v2] Λ d none z := by
  refine Cn.of (own := "SeasonBoundModel") (by decide +kernel) rfl (Nat.le_of_ble_eq_true rfl) ?_
  intro p e s m below meth c C0 hr hlocks hH ls hl
  have hl : lv_has ls 4 [(0, .ref (ad Γ.2.2.1 p0)), (1, .int v1), (2, .int v2)] := hl
  obtain ⟨hx, hb, hml, hown, hts, hK⟩ := id C0
  unfold f_X9_copies at hf
  refine lv_iconst (v := (0 : Int32)) hx hb dX9_copies_0 (by decide) ?_
  refine lv_istore_n (lv' := [(3, .int (0 : Int32)), (0, .ref (ad Γ.2.2.1 p0)), (1, .int v1), (2, .int v2)]) hx hb dX9_copies_1 rfl hl (by decide) rfl (fun ls hl => ?_)
  refine w_X9_copies_L2 C0 hr hlocks p0 v1 v2 FU (0 : Int32) d hf _ _ _ hH (lv_sub hl [1, 2, 3, 0] rfl)
theorem dX9_keep_0 : decode cX9_keep 0 = .ok (.iload_n 1, 1) := by decide +kernel
theorem dX9_keep_1 : decode cX9_keep 1 = .ok (.i2l, 1) := by decide +kernel
theorem dX9_keep_2 : decode cX9_keep 2 = .ok (.lconst 0, 1) := by decide +kernel
theorem dX9_keep_3 : decode cX9_keep 3 = .ok (.lconst 1, 1) := by decide +kernel
theorem dX9_keep_4 : decode cX9_keep 4 = .ok (.invokestatic 56, 3) := by decide +kernel
theorem dX9_keep_7 : decode cX9_keep 7 = .ok (.ifCond .ne 5, 3) := by decide +kernel
theorem dX9_keep_10 : decode cX9_keep 10 = .ok (.iconst (-1), 1) := by decide +kernel
theorem dX9_keep_11 : decode cX9_keep 11 = .ok (.ireturn, 1) := by decide +kernel
theorem dX9_keep_12 : decode cX9_keep 12 = .ok (.aload_n 0, 1) := by decide +kernel
theorem dX9_keep_13 : decode cX9_keep 13 = .ok (.getfield 16, 3) := by decide +kernel
theorem dX9_keep_16 : decode cX9_keep 16 = .ok (.iload_n 1, 1) := by decide +kernel
theorem dX9_keep_17 : decode cX9_keep 17 = .ok (.baload, 1) := by decide +kernel
theorem dX9_keep_18 : decode cX9_keep 18 = .ok (.invokestatic 146, 3) := by decide +kernel
theorem dX9_keep_21 : decode cX9_keep 21 = .ok (.istore_n 2, 1) := by decide +kernel
theorem dX9_keep_22 : decode cX9_keep 22 = .ok (.aload_n 0, 1) := by decide +kernel
theorem dX9_keep_23 : decode cX9_keep 23 = .ok (.getfield 16, 3) := by decide +kernel
theorem dX9_keep_26 : decode cX9_keep 26 = .ok (.iload_n 1, 1) := by decide +kernel
theorem dX9_keep_27 : decode cX9_keep 27 = .ok (.iconst 1, 1) := by decide +kernel
theorem dX9_keep_28 : decode cX9_keep 28 = .ok (.bastore, 1) := by decide +kernel
theorem dX9_keep_29 : decode cX9_keep 29 = .ok (.aload_n 0, 1) := by decide +kernel
theorem dX9_keep_30 : decode cX9_keep 30 = .ok (.bipush 60, 2) := by decide +kernel
theorem dX9_keep_32 : decode cX9_keep 32 = .ok (.iload_n 1, 1) := by decide +kernel
theorem dX9_keep_33 : decode cX9_keep 33 = .ok (.iconst 1, 1) := by decide +kernel
theorem dX9_keep_34 : decode cX9_keep 34 = .ok (.iadd, 1) := by decide +kernel
theorem dX9_keep_35 : decode cX9_keep 35 = .ok (.imul, 1) := by decide +kernel
theorem dX9_keep_36 : decode cX9_keep 36 = .ok (.iconst 0, 1) := by decide +kernel
theorem dX9_keep_37 : decode cX9_keep 37 = .ok (.invokevirtual 276, 3) := by decide +kernel
theorem dX9_keep_40 : decode cX9_keep 40 = .ok (.iload_n 2, 1) := by decide +kernel
theorem dX9_keep_41 : decode cX9_keep 41 = .ok (.ireturn, 1) := by decide +kernel
def f_X9_keep (Λ : List Ly) (d : Dt) (p0 : Nat) (v1 : Int32) : Option (Int32 × Dt) := if (f_X9_in (v1).toInt64 (0 : Int64) (1 : Int64)) = 0 then (some ((-1 : Int32), d)) else (Option.bind (rf Λ p0 9 2) fun q2 => if okA Λ q2 3 v1 = true then (if clsAt Λ p0 = some 9 then (Option.bind (f_X9_copies Λ (pI d q2 (v1).toNatClampNeg (vp_nar .boolean (1 : Int32))) p0 ((60 : Int32) * (v1 + (1 : Int32))) (0 : Int32)) fun z5 => some ((f_X9_flag (d.1 q2 (v1).toNatClampNeg)), z5)) else none) else none)
set_option maxHeartbeats 4000000 in
set_option maxRecDepth 100000 in
theorem c_X9_keep (Γ : Cx) (l : Launch) (Λ : List Ly) (d : Dt) (p0 : Nat) (v1 : Int32) (z : Int32 × Dt) (hf : f_X9_keep Λ d p0 v1 = some z) : Cn Γ l yX9_keep cX9_keep 3 (some FieldType.int) 1 25 [.ref (ad Γ.2.2.1 p0), .int v1] Λ d (some (.int z.1)) z.2 := by
  refine Cn.of (own := "SeasonBoundModel") (by decide +kernel) rfl (Nat.le_of_ble_eq_true rfl) ?_
  intro p e s m below meth c C0 hr hlocks hH ls hl
  have hl : lv_has ls 3 [(0, .ref (ad Γ.2.2.1 p0)), (1, .int v1)] := hl
  obtain ⟨hx, hb, hml, hown, hts, hK⟩ := id C0
  unfold f_X9_keep at hf
  refine lv_iload_n hx hb dX9_keep_0 rfl (lv_at hl 1 rfl) ?_
  refine lv_i2l (v := (v1).toInt64) hx hb dX9_keep_1 rfl ?_
  refine lv_lconst (v := (0 : Int64)) hx hb dX9_keep_2 (by decide) ?_
  refine lv_lconst (v := (1 : Int64)) hx hb dX9_keep_3 (by decide) ?_
  refine r_callSi (rest := []) C0 hH (c_X9_in Γ l Λ d (v1).toInt64 (0 : Int64) (1 : Int64)) cs_X9_56 (by decide) rfl hl.1 rfl (Nat.le_of_ble_eq_true rfl) dX9_keep_4 (by decide) (fun H locs hH => ?_)
  refine lv_if_ne (tgt := 12) hx hb dX9_keep_7 (by decide) (fun c1 => ?_) (fun c1 => ?_)
  · replace hf := ie hf c1
    refine lv_aload_n hx hb dX9_keep_12 rfl (lv_at hl 0 rfl) ?_
    obtain ⟨q2, g2, hf⟩ := ob hf
    refine r_getr C0 hH fl_X9_16 g2 dX9_keep_13 ?_
    refine lv_iload_n hx hb dX9_keep_16 rfl (lv_at hl 1 rfl) ?_
    obtain ⟨g3, hf⟩ := gd hf
    refine r_zald C0 hH g3 dX9_keep_17 ?_
    refine r_callSi (rest := []) C0 hH (c_X9_flag Γ l Λ d (d.1 q2 (v1).toNatClampNeg)) cs_X9_146 (by decide) rfl hl.1 rfl (Nat.le_of_ble_eq_true rfl) dX9_keep_18 (by decide) (fun H locs hH => ?_)
    refine lv_istore_n (lv' := [(2, .int (f_X9_flag (d.1 q2 (v1).toNatClampNeg))), (0, .ref (ad Γ.2.2.1 p0)), (1, .int v1)]) hx hb dX9_keep_21 rfl hl (by decide) rfl (fun ls hl => ?_)
    refine lv_aload_n hx hb dX9_keep_22 rfl (lv_at hl 1 rfl) ?_
    refine r_getr C0 hH fl_X9_16 g2 dX9_keep_23 ?_
    refine lv_iload_n hx hb dX9_keep_26 rfl (lv_at hl 2 rfl) ?_
    refine lv_iconst (v := (1 : Int32)) hx hb dX9_keep_27 (by decide) ?_
    refine r_zast C0 hH g3 dX9_keep_28 (fun H locs hH => ?_)
    refine lv_aload_n hx hb dX9_keep_29 rfl (lv_at hl 1 rfl) ?_
    refine lv_bipush (v := (60 : Int32)) hx hb dX9_keep_30 (by decide) ?_
    refine lv_iload_n hx hb dX9_keep_32 rfl (lv_at hl 2 rfl) ?_
    refine lv_iconst (v := (1 : Int32)) hx hb dX9_keep_33 (by decide) ?_
    refine lv_iadd hx hb dX9_keep_34 ?_
    refine lv_imul hx hb dX9_keep_35 ?_
    refine lv_iconst (v := (0 : Int32)) hx hb dX9_keep_36 (by decide) ?_
    obtain ⟨g4, hf⟩ := gd hf
    obtain ⟨z5, h5, hf⟩ := ob hf
    refine r_callVv (rest := []) C0 hH (c_X9_copies Γ l Λ (pI d q2 (v1).toNatClampNeg (vp_nar .boolean (1 : Int32))) p0 ((60 : Int32) * (v1 + (1 : Int32))) (0 : Int32) z5 h5) cv_X9_276 g4 (by decide) rfl hl.1 rfl (Nat.le_of_ble_eq_true rfl) dX9_keep_37 (by decide) (fun H locs hH => ?_)
    refine lv_iload_n hx hb dX9_keep_40 rfl (lv_at hl 0 rfl) ?_
    obtain rfl := Option.some.inj hf
    exact r_iret (d' := d) C0 hr hlocks hH rfl dX9_keep_41
  · replace hf := it hf c1
    refine lv_iconst (v := (-1 : Int32)) hx hb dX9_keep_10 (by decide) ?_
    obtain rfl := Option.some.inj hf
    exact r_iret (d' := d) C0 hr hlocks hH rfl dX9_keep_11
theorem dX9_back_0 : decode cX9_back 0 = .ok (.iload_n 1, 1) := by decide +kernel
theorem dX9_back_1 : decode cX9_back 1 = .ok (.i2l, 1) := by decide +kernel
theorem dX9_back_2 : decode cX9_back 2 = .ok (.lconst 0, 1) := by decide +kernel
theorem dX9_back_3 : decode cX9_back 3 = .ok (.lconst 1, 1) := by decide +kernel
theorem dX9_back_4 : decode cX9_back 4 = .ok (.invokestatic 56, 3) := by decide +kernel
theorem dX9_back_7 : decode cX9_back 7 = .ok (.ifCond .ne 5, 3) := by decide +kernel
theorem dX9_back_10 : decode cX9_back 10 = .ok (.iconst (-1), 1) := by decide +kernel
theorem dX9_back_11 : decode cX9_back 11 = .ok (.ireturn, 1) := by decide +kernel
theorem dX9_back_12 : decode cX9_back 12 = .ok (.aload_n 0, 1) := by decide +kernel
theorem dX9_back_13 : decode cX9_back 13 = .ok (.getfield 16, 3) := by decide +kernel
theorem dX9_back_16 : decode cX9_back 16 = .ok (.iload_n 1, 1) := by decide +kernel
theorem dX9_back_17 : decode cX9_back 17 = .ok (.baload, 1) := by decide +kernel
theorem dX9_back_18 : decode cX9_back 18 = .ok (.ifCond .ne 6, 3) := by decide +kernel
theorem dX9_back_21 : decode cX9_back 21 = .ok (.bipush (-2), 2) := by decide +kernel
theorem dX9_back_23 : decode cX9_back 23 = .ok (.ireturn, 1) := by decide +kernel
theorem dX9_back_24 : decode cX9_back 24 = .ok (.aload_n 0, 1) := by decide +kernel
theorem dX9_back_25 : decode cX9_back 25 = .ok (.iconst 0, 1) := by decide +kernel
theorem dX9_back_26 : decode cX9_back 26 = .ok (.bipush 60, 2) := by decide +kernel
theorem dX9_back_28 : decode cX9_back 28 = .ok (.iload_n 1, 1) := by decide +kernel
theorem dX9_back_29 : decode cX9_back 29 = .ok (.iconst 1, 1) := by decide +kernel
theorem dX9_back_30 : decode cX9_back 30 = .ok (.iadd, 1) := by decide +kernel
theorem dX9_back_31 : decode cX9_back 31 = .ok (.imul, 1) := by decide +kernel
theorem dX9_back_32 : decode cX9_back 32 = .ok (.invokevirtual 276, 3) := by decide +kernel
theorem dX9_back_35 : decode cX9_back 35 = .ok (.aload_n 0, 1) := by decide +kernel
theorem dX9_back_36 : decode cX9_back 36 = .ok (.getfield 7, 3) := by decide +kernel
theorem dX9_back_39 : decode cX9_back 39 = .ok (.bipush 40, 2) := by decide +kernel
theorem dX9_back_41 : decode cX9_back 41 = .ok (.iaload, 1) := by decide +kernel
theorem dX9_back_42 : decode cX9_back 42 = .ok (.ireturn, 1) := by decide +kernel
def f_X9_back (Λ : List Ly) (d : Dt) (p0 : Nat) (v1 : Int32) : Option (Int32 × Dt) := if (f_X9_in (v1).toInt64 (0 : Int64) (1 : Int64)) = 0 then (some ((-1 : Int32), d)) else (Option.bind (rf Λ p0 9 2) fun q2 => if okA Λ q2 3 v1 = true then (if (d.1 q2 (v1).toNatClampNeg) = 0 then (some ((-2 : Int32), d)) else (if clsAt Λ p0 = some 9 then (Option.bind (f_X9_copies Λ d p0 (0 : Int32) ((60 : Int32) * (v1 + (1 : Int32)))) fun z6 => Option.bind (rf Λ p0 9 0) fun q7 => if okA Λ q7 1 (40 : Int32) = true then (some ((z6.1 q7 ((40 : Int32)).toNatClampNeg), z6)) else none) else none)) else none)
set_option maxHeartbeats 4000000 in
set_option maxRecDepth 100000 in
theorem c_X9_back (Γ : Cx) (l : Launch) (Λ : List Ly) (d : Dt) (p0 : Nat) (v1 : Int32) (z : Int32 × Dt) (hf : f_X9_back Λ d p0 v1 = some z) : Cn Γ l yX9_back cX9_back 2 (some FieldType.int) 1 25 [.ref (ad Γ.2.2.1 p0), .int v1] Λ d (some (.int z.1)) z.2 := by
  refine Cn.of (own := "SeasonBoundModel") (by decide +kernel) rfl (Nat.le_of_ble_eq_true rfl) ?_
  intro p e s m below meth c C0 hr hlocks hH ls hl
  have hl : lv_has ls 2 [(0, .ref (ad Γ.2.2.1 p0)), (1, .int v1)] := hl
  obtain ⟨hx, hb, hml, hown, hts, hK⟩ := id C0
  unfold f_X9_back at hf
  refine lv_iload_n hx hb dX9_back_0 rfl (lv_at hl 1 rfl) ?_
  refine lv_i2l (v := (v1).toInt64) hx hb dX9_back_1 rfl ?_
  refine lv_lconst (v := (0 : Int64)) hx hb dX9_back_2 (by decide) ?_
  refine lv_lconst (v := (1 : Int64)) hx hb dX9_back_3 (by decide) ?_
  refine r_callSi (rest := []) C0 hH (c_X9_in Γ l Λ d (v1).toInt64 (0 : Int64) (1 : Int64)) cs_X9_56 (by decide) rfl hl.1 rfl (Nat.le_of_ble_eq_true rfl) dX9_back_4 (by decide) (fun H locs hH => ?_)
  refine lv_if_ne (tgt := 12) hx hb dX9_back_7 (by decide) (fun c1 => ?_) (fun c1 => ?_)
  · replace hf := ie hf c1
    refine lv_aload_n hx hb dX9_back_12 rfl (lv_at hl 0 rfl) ?_
    obtain ⟨q2, g2, hf⟩ := ob hf
    refine r_getr C0 hH fl_X9_16 g2 dX9_back_13 ?_
    refine lv_iload_n hx hb dX9_back_16 rfl (lv_at hl 1 rfl) ?_
    obtain ⟨g3, hf⟩ := gd hf
    refine r_zald C0 hH g3 dX9_back_17 ?_
    refine lv_if_ne (tgt := 24) hx hb dX9_back_18 (by decide) (fun c4 => ?_) (fun c4 => ?_)
    · replace hf := ie hf c4
      refine lv_aload_n hx hb dX9_back_24 rfl (lv_at hl 0 rfl) ?_
      refine lv_iconst (v := (0 : Int32)) hx hb dX9_back_25 (by decide) ?_
      refine lv_bipush (v := (60 : Int32)) hx hb dX9_back_26 (by decide) ?_
      refine lv_iload_n hx hb dX9_back_28 rfl (lv_at hl 1 rfl) ?_
      refine lv_iconst (v := (1 : Int32)) hx hb dX9_back_29 (by decide) ?_
      refine lv_iadd hx hb dX9_back_30 ?_
      refine lv_imul hx hb dX9_back_31 ?_
      obtain ⟨g5, hf⟩ := gd hf
      obtain ⟨z6, h6, hf⟩ := ob hf
      refine r_callVv (rest := []) C0 hH (c_X9_copies Γ l Λ d p0 (0 : Int32) ((60 : Int32) * (v1 + (1 : Int32))) z6 h6) cv_X9_276 g5 (by decide) rfl hl.1 rfl (Nat.le_of_ble_eq_true rfl) dX9_back_32 (by decide) (fun H locs hH => ?_)
      refine lv_aload_n hx hb dX9_back_35 rfl (lv_at hl 0 rfl) ?_
      obtain ⟨q7, g7, hf⟩ := ob hf
      refine r_getr C0 hH fl_X9_7 g7 dX9_back_36 ?_
      refine lv_bipush (v := (40 : Int32)) hx hb dX9_back_39 (by decide) ?_
      obtain ⟨g8, hf⟩ := gd hf
      refine r_iald C0 hH g8 dX9_back_41 ?_
      obtain rfl := Option.some.inj hf
      exact r_iret (d' := d) C0 hr hlocks hH rfl dX9_back_42
    · replace hf := it hf c4
      refine lv_bipush (v := (-2 : Int32)) hx hb dX9_back_21 (by decide) ?_
      obtain rfl := Option.some.inj hf
      exact r_iret (d' := d) C0 hr hlocks hH rfl dX9_back_23
  · replace hf := it hf c1
    refine lv_iconst (v := (-1 : Int32)) hx hb dX9_back_10 (by decide) ?_
    obtain rfl := Option.some.inj hf
    exact r_iret (d' := d) C0 hr hlocks hH rfl dX9_back_11
theorem dX9_isSheet_0 : decode cX9_isSheet 0 = .ok (.iload_n 0, 1) := by decide +kernel
theorem dX9_isSheet_1 : decode cX9_isSheet 1 = .ok (.i2l, 1) := by decide +kernel
theorem dX9_isSheet_2 : decode cX9_isSheet 2 = .ok (.lconst 0, 1) := by decide +kernel
theorem dX9_isSheet_3 : decode cX9_isSheet 3 = .ok (.ldc2_w 132, 3) := by decide +kernel
theorem dX9_isSheet_6 : decode cX9_isSheet 6 = .ok (.invokestatic 56, 3) := by decide +kernel
theorem dX9_isSheet_9 : decode cX9_isSheet 9 = .ok (.ifCond .eq 19, 3) := by decide +kernel
theorem dX9_isSheet_12 : decode cX9_isSheet 12 = .ok (.iload_n 1, 1) := by decide +kernel
theorem dX9_isSheet_13 : decode cX9_isSheet 13 = .ok (.i2l, 1) := by decide +kernel
theorem dX9_isSheet_14 : decode cX9_isSheet 14 = .ok (.lconst 0, 1) := by decide +kernel
theorem dX9_isSheet_15 : decode cX9_isSheet 15 = .ok (.ldc2_w 220, 3) := by decide +kernel
theorem dX9_isSheet_18 : decode cX9_isSheet 18 = .ok (.invokestatic 56, 3) := by decide +kernel
theorem dX9_isSheet_21 : decode cX9_isSheet 21 = .ok (.ifCond .eq 7, 3) := by decide +kernel
theorem dX9_isSheet_24 : decode cX9_isSheet 24 = .ok (.iconst 1, 1) := by decide +kernel
theorem dX9_isSheet_25 : decode cX9_isSheet 25 = .ok (.goto 4, 3) := by decide +kernel
theorem dX9_isSheet_28 : decode cX9_isSheet 28 = .ok (.iconst 0, 1) := by decide +kernel
theorem dX9_isSheet_29 : decode cX9_isSheet 29 = .ok (.ireturn, 1) := by decide +kernel
def f_X9_isSheet (v0 : Int32) (v1 : Int32) : Int32 := if (f_X9_in (v0).toInt64 (0 : Int64) (3 : Int64)) = 0 then ((0 : Int32)) else (if (f_X9_in (v1).toInt64 (0 : Int64) (2 : Int64)) = 0 then ((0 : Int32)) else ((1 : Int32)))
theorem bo_X9_isSheet (v0 : Int32) (v1 : Int32) : f_X9_isSheet v0 v1 = 0 ∨ f_X9_isSheet v0 v1 = 1 := by
  unfold f_X9_isSheet
  (repeat' split) <;> first | exact Or.inl rfl | exact Or.inr rfl | exact bo_X9_in _ _ _
set_option maxHeartbeats 4000000 in
set_option maxRecDepth 100000 in
theorem c_X9_isSheet (Γ : Cx) (l : Launch) (Λ : List Ly) (d : Dt) (v0 : Int32) (v1 : Int32) : Cn Γ l yX9_isSheet cX9_isSheet 2 (some FieldType.boolean) 1 25 [.int v0, .int v1] Λ d (some (.int (f_X9_isSheet v0 v1))) d := by
  generalize hf : f_X9_isSheet v0 v1 = z
  refine Cn.of (own := "SeasonBoundModel") (by decide +kernel) rfl (Nat.le_of_ble_eq_true rfl) ?_
  intro p e s m below meth c C0 hr hlocks hH ls hl
  have hl : lv_has ls 2 [(0, .int v0), (1, .int v1)] := hl
  obtain ⟨hx, hb, hml, hown, hts, hK⟩ := id C0
  unfold f_X9_isSheet at hf
  refine lv_iload_n hx hb dX9_isSheet_0 rfl (lv_at hl 0 rfl) ?_
  refine lv_i2l (v := (v0).toInt64) hx hb dX9_isSheet_1 rfl ?_
  refine lv_lconst (v := (0 : Int64)) hx hb dX9_isSheet_2 (by decide) ?_
  refine lv_ldc2 hx hb hown (hts _ kl_X9_132) dX9_isSheet_3 ?_
  refine r_callSi (rest := []) C0 hH (c_X9_in Γ l Λ d (v0).toInt64 (0 : Int64) (3 : Int64)) cs_X9_56 (by decide) rfl hl.1 rfl (Nat.le_of_ble_eq_true rfl) dX9_isSheet_6 (by decide) (fun H locs hH => ?_)
  refine lv_if_eq (tgt := 28) hx hb dX9_isSheet_9 (by decide) (fun c1 => ?_) (fun c1 => ?_)
  · replace hf := it hf c1
    refine lv_iconst (v := (0 : Int32)) hx hb dX9_isSheet_28 (by decide) ?_
    subst hf
    exact r_iret (d' := d) C0 hr hlocks hH (nz (Or.inl rfl)) dX9_isSheet_29
  · replace hf := ie hf c1
    refine lv_iload_n hx hb dX9_isSheet_12 rfl (lv_at hl 1 rfl) ?_
    refine lv_i2l (v := (v1).toInt64) hx hb dX9_isSheet_13 rfl ?_
    refine lv_lconst (v := (0 : Int64)) hx hb dX9_isSheet_14 (by decide) ?_
    refine lv_ldc2 hx hb hown (hts _ kl_X9_220) dX9_isSheet_15 ?_
    refine r_callSi (rest := []) C0 hH (c_X9_in Γ l Λ d (v1).toInt64 (0 : Int64) (2 : Int64)) cs_X9_56 (by decide) rfl hl.1 rfl (Nat.le_of_ble_eq_true rfl) dX9_isSheet_18 (by decide) (fun H locs hH => ?_)
    refine lv_if_eq (tgt := 28) hx hb dX9_isSheet_21 (by decide) (fun c2 => ?_) (fun c2 => ?_)
    · replace hf := it hf c2
      refine lv_iconst (v := (0 : Int32)) hx hb dX9_isSheet_28 (by decide) ?_
      subst hf
      exact r_iret (d' := d) C0 hr hlocks hH (nz (Or.inl rfl)) dX9_isSheet_29
    · replace hf := ie hf c2
      refine lv_iconst (v := (1 : Int32)) hx hb dX9_isSheet_24 (by decide) ?_
      refine lv_goto (tgt := 29) hx hb dX9_isSheet_25 (by decide) ?_
      subst hf
      exact r_iret (d' := d) C0 hr hlocks hH (nz (Or.inr rfl)) dX9_isSheet_29
theorem dX9_sheet_0 : decode cX9_sheet 0 = .ok (.iload_n 1, 1) := by decide +kernel
theorem dX9_sheet_1 : decode cX9_sheet 1 = .ok (.iload_n 2, 1) := by decide +kernel
theorem dX9_sheet_2 : decode cX9_sheet 2 = .ok (.invokestatic 279, 3) := by decide +kernel
theorem dX9_sheet_5 : decode cX9_sheet 5 = .ok (.ifCond .eq 9, 3) := by decide +kernel
theorem dX9_sheet_8 : decode cX9_sheet 8 = .ok (.iload_n 3, 1) := by decide +kernel
theorem dX9_sheet_9 : decode cX9_sheet 9 = .ok (.bipush 40, 2) := by decide +kernel
theorem dX9_sheet_11 : decode cX9_sheet 11 = .ok (.if_icmp .le 5, 3) := by decide +kernel
theorem dX9_sheet_14 : decode cX9_sheet 14 = .ok (.iconst (-1), 1) := by decide +kernel
theorem dX9_sheet_15 : decode cX9_sheet 15 = .ok (.ireturn, 1) := by decide +kernel
theorem dX9_sheet_16 : decode cX9_sheet 16 = .ok (.iload_n 3, 1) := by decide +kernel
theorem dX9_sheet_17 : decode cX9_sheet 17 = .ok (.ifCond .ge 6, 3) := by decide +kernel
theorem dX9_sheet_20 : decode cX9_sheet 20 = .ok (.bipush (-14), 2) := by decide +kernel
theorem dX9_sheet_22 : decode cX9_sheet 22 = .ok (.ireturn, 1) := by decide +kernel
theorem dX9_sheet_23 : decode cX9_sheet 23 = .ok (.aload_n 0, 1) := by decide +kernel
theorem dX9_sheet_24 : decode cX9_sheet 24 = .ok (.getfield 32, 3) := by decide +kernel
theorem dX9_sheet_27 : decode cX9_sheet 27 = .ok (.iload_n 1, 1) := by decide +kernel
theorem dX9_sheet_28 : decode cX9_sheet 28 = .ok (.iload_n 2, 1) := by decide +kernel
theorem dX9_sheet_29 : decode cX9_sheet 29 = .ok (.iastore, 1) := by decide +kernel
theorem dX9_sheet_30 : decode cX9_sheet 30 = .ok (.aload_n 0, 1) := by decide +kernel
theorem dX9_sheet_31 : decode cX9_sheet 31 = .ok (.getfield 35, 3) := by decide +kernel
theorem dX9_sheet_34 : decode cX9_sheet 34 = .ok (.iload_n 1, 1) := by decide +kernel
theorem dX9_sheet_35 : decode cX9_sheet 35 = .ok (.iload_n 3, 1) := by decide +kernel
theorem dX9_sheet_36 : decode cX9_sheet 36 = .ok (.iastore, 1) := by decide +kernel
theorem dX9_sheet_37 : decode cX9_sheet 37 = .ok (.iconst 0, 1) := by decide +kernel
theorem dX9_sheet_38 : decode cX9_sheet 38 = .ok (.istore 4, 2) := by decide +kernel
theorem dX9_sheet_40 : decode cX9_sheet 40 = .ok (.iload 4, 2) := by decide +kernel
theorem dX9_sheet_42 : decode cX9_sheet 42 = .ok (.bipush 40, 2) := by decide +kernel
theorem dX9_sheet_44 : decode cX9_sheet 44 = .ok (.if_icmp .ge 22, 3) := by decide +kernel
theorem dX9_sheet_47 : decode cX9_sheet 47 = .ok (.aload_n 0, 1) := by decide +kernel
theorem dX9_sheet_48 : decode cX9_sheet 48 = .ok (.getfield 38, 3) := by decide +kernel
theorem dX9_sheet_51 : decode cX9_sheet 51 = .ok (.bipush 40, 2) := by decide +kernel
theorem dX9_sheet_53 : decode cX9_sheet 53 = .ok (.iload_n 1, 1) := by decide +kernel
theorem dX9_sheet_54 : decode cX9_sheet 54 = .ok (.imul, 1) := by decide +kernel
theorem dX9_sheet_55 : decode cX9_sheet 55 = .ok (.iload 4, 2) := by decide +kernel
theorem dX9_sheet_57 : decode cX9_sheet 57 = .ok (.iadd, 1) := by decide +kernel
theorem dX9_sheet_58 : decode cX9_sheet 58 = .ok (.iconst 0, 1) := by decide +kernel
theorem dX9_sheet_59 : decode cX9_sheet 59 = .ok (.iastore, 1) := by decide +kernel
theorem dX9_sheet_60 : decode cX9_sheet 60 = .ok (.iinc 4 1, 3) := by decide +kernel
theorem dX9_sheet_63 : decode cX9_sheet 63 = .ok (.goto (-23), 3) := by decide +kernel
theorem dX9_sheet_66 : decode cX9_sheet 66 = .ok (.iconst 1, 1) := by decide +kernel
theorem dX9_sheet_67 : decode cX9_sheet 67 = .ok (.ireturn, 1) := by decide +kernel
def f_X9_sheet_L40 (Λ : List Ly) (p0 : Nat) (v1 : Int32) : Nat → Int32 → Dt → Option (Int32 × Dt)
  | 0, _, _ => none
  | n + 1, v4, d => if (40 : Int32) ≤ v4 then (some ((1 : Int32), d)) else (Option.bind (rf Λ p0 9 22) fun q9 => if okA Λ q9 1 (((40 : Int32) * v1) + v4) = true then (f_X9_sheet_L40 Λ p0 v1 n (v4 + (1 : Int32)) (pI d q9 ((((40 : Int32) * v1) + v4)).toNatClampNeg (0 : Int32))) else none)
def f_X9_sheet (Λ : List Ly) (d : Dt) (p0 : Nat) (v1 : Int32) (v2 : Int32) (v3 : Int32) : Option (Int32 × Dt) := if (f_X9_isSheet v1 v2) = 0 then (some ((-1 : Int32), d)) else (if v3 ≤ (40 : Int32) then (if 0 ≤ v3 then (Option.bind (rf Λ p0 9 20) fun q4 => if okA Λ q4 1 v1 = true then (Option.bind (rf Λ p0 9 21) fun q6 => if okA Λ q6 1 v1 = true then (f_X9_sheet_L40 Λ p0 v1 FU (0 : Int32) (pI (pI d q4 (v1).toNatClampNeg v2) q6 (v1).toNatClampNeg v3)) else none) else none) else (some ((-14 : Int32), d))) else (some ((-1 : Int32), d)))
set_option maxHeartbeats 4000000 in
set_option maxRecDepth 100000 in
theorem w_X9_sheet_L40 {p : Program} {l : Launch} {e : Env} {s : State} {m : MethodId} {args : Array Value} {below : List Frame} {meth : Method} {c : Code} {Γ : Cx} {Λ : List Ly} {z : Int32 × Dt} (C0 : Ct Γ p s m args c cX9_sheet 5 "SeasonBoundModel") (hr : meth.sig.returnType = (some FieldType.int)) (hlocks : meth.locks = false) (p0 : Nat) (v1 : Int32) :
    ∀ (n : Nat) (v4 : Int32) (d : Dt), f_X9_sheet_L40 Λ p0 v1 n v4 d = some z → ∀ (H : Heap) (locs : List Loc) (ls : Array Slot), Hs Γ Λ d s H locs → lv_has ls 5 [(0, .ref (ad Γ.2.2.1 p0)), (1, .int v1), (4, .int v4)] → W p l e { frames := 2, cells := 0, slots := 0, locals := 46 } s m args below meth c H locs 0 0 (MQ below (QN Γ Λ z.2 (some (.int z.1))) args s 0 0 (AP Γ)) (F0 m 40 ls []) := by
  obtain ⟨hx, hb, hml, hown, hts, hK⟩ := id C0
  intro n
  induction n with
  | zero =>
    intro v4 d hf
    cases hf
  | succ n ih =>
    intro v4 d hf H locs ls hH hl
    unfold f_X9_sheet_L40 at hf
    refine lv_iload hx hb dX9_sheet_40 (lv_at hl 2 rfl) ?_
    refine lv_bipush (v := (40 : Int32)) hx hb dX9_sheet_42 (by decide) ?_
    refine lv_icmp_ge (tgt := 66) hx hb dX9_sheet_44 (by decide) (fun c8 => ?_) (fun c8 => ?_)
    · replace hf := it hf c8
      refine lv_iconst (v := (1 : Int32)) hx hb dX9_sheet_66 (by decide) ?_
      obtain rfl := Option.some.inj hf
      exact r_iret (d' := d) C0 hr hlocks hH rfl dX9_sheet_67
    · replace hf := ie hf c8
      refine lv_aload_n hx hb dX9_sheet_47 rfl (lv_at hl 0 rfl) ?_
      obtain ⟨q9, g9, hf⟩ := ob hf
      refine r_getr C0 hH fl_X9_38 g9 dX9_sheet_48 ?_
      refine lv_bipush (v := (40 : Int32)) hx hb dX9_sheet_51 (by decide) ?_
      refine lv_iload_n hx hb dX9_sheet_53 rfl (lv_at hl 1 rfl) ?_
      refine lv_imul hx hb dX9_sheet_54 ?_
      refine lv_iload hx hb dX9_sheet_55 (lv_at hl 2 rfl) ?_
      refine lv_iadd hx hb dX9_sheet_57 ?_
      refine lv_iconst (v := (0 : Int32)) hx hb dX9_sheet_58 (by decide) ?_
      obtain ⟨g10, hf⟩ := gd hf
      refine r_iast C0 hH g10 dX9_sheet_59 (fun H locs hH => ?_)
      refine lv_iinc (v := (v4 + (1 : Int32))) (lv' := [(4, .int (v4 + (1 : Int32))), (0, .ref (ad Γ.2.2.1 p0)), (1, .int v1)]) hx hb dX9_sheet_60 hl (k := 2) rfl (congrArg (fun w => v4 + w) (by decide)) (by decide) rfl (fun ls hl => ?_)
      refine lv_goto (tgt := 40) hx hb dX9_sheet_63 (by decide) ?_
      exact ih (v4 + (1 : Int32)) (pI d q9 ((((40 : Int32) * v1) + v4)).toNatClampNeg (0 : Int32)) hf _ _ _ hH (lv_sub hl [1, 2, 0] rfl)
set_option maxHeartbeats 4000000 in
set_option maxRecDepth 100000 in
theorem c_X9_sheet (Γ : Cx) (l : Launch) (Λ : List Ly) (d : Dt) (p0 : Nat) (v1 : Int32) (v2 : Int32) (v3 : Int32) (z : Int32 × Dt) (hf : f_X9_sheet Λ d p0 v1 v2 v3 = some z) : Cn Γ l yX9_sheet cX9_sheet 5 (some FieldType.int) 2 46 [.ref (ad Γ.2.2.1 p0), .int v1, .int v2, .int v3] Λ d (some (.int z.1)) z.2 := by
  refine Cn.of (own := "SeasonBoundModel") (by decide +kernel) rfl (Nat.le_of_ble_eq_true rfl) ?_
  intro p e s m below meth c C0 hr hlocks hH ls hl
  have hl : lv_has ls 5 [(0, .ref (ad Γ.2.2.1 p0)), (1, .int v1), (2, .int v2), (3, .int v3)] := hl
  obtain ⟨hx, hb, hml, hown, hts, hK⟩ := id C0
  unfold f_X9_sheet at hf
  refine lv_iload_n hx hb dX9_sheet_0 rfl (lv_at hl 1 rfl) ?_
  refine lv_iload_n hx hb dX9_sheet_1 rfl (lv_at hl 2 rfl) ?_
  refine r_callSi (rest := []) C0 hH (c_X9_isSheet Γ l Λ d v1 v2) cs_X9_279 (by decide) rfl hl.1 rfl (Nat.le_of_ble_eq_true rfl) dX9_sheet_2 (by decide) (fun H locs hH => ?_)
  refine lv_if_eq (tgt := 14) hx hb dX9_sheet_5 (by decide) (fun c1 => ?_) (fun c1 => ?_)
  · replace hf := it hf c1
    refine lv_iconst (v := (-1 : Int32)) hx hb dX9_sheet_14 (by decide) ?_
    obtain rfl := Option.some.inj hf
    exact r_iret (d' := d) C0 hr hlocks hH rfl dX9_sheet_15
  · replace hf := ie hf c1
    refine lv_iload_n hx hb dX9_sheet_8 rfl (lv_at hl 3 rfl) ?_
    refine lv_bipush (v := (40 : Int32)) hx hb dX9_sheet_9 (by decide) ?_
    refine lv_icmp_le (tgt := 16) hx hb dX9_sheet_11 (by decide) (fun c2 => ?_) (fun c2 => ?_)
    · replace hf := it hf c2
      refine lv_iload_n hx hb dX9_sheet_16 rfl (lv_at hl 3 rfl) ?_
      refine lv_if_ge (tgt := 23) hx hb dX9_sheet_17 (by decide) (fun c3 => ?_) (fun c3 => ?_)
      · replace hf := it hf c3
        refine lv_aload_n hx hb dX9_sheet_23 rfl (lv_at hl 0 rfl) ?_
        obtain ⟨q4, g4, hf⟩ := ob hf
        refine r_getr C0 hH fl_X9_32 g4 dX9_sheet_24 ?_
        refine lv_iload_n hx hb dX9_sheet_27 rfl (lv_at hl 1 rfl) ?_
        refine lv_iload_n hx hb dX9_sheet_28 rfl (lv_at hl 2 rfl) ?_
        obtain ⟨g5, hf⟩ := gd hf
        refine r_iast C0 hH g5 dX9_sheet_29 (fun H locs hH => ?_)
        refine lv_aload_n hx hb dX9_sheet_30 rfl (lv_at hl 0 rfl) ?_
        obtain ⟨q6, g6, hf⟩ := ob hf
        refine r_getr C0 hH fl_X9_35 g6 dX9_sheet_31 ?_
        refine lv_iload_n hx hb dX9_sheet_34 rfl (lv_at hl 1 rfl) ?_
        refine lv_iload_n hx hb dX9_sheet_35 rfl (lv_at hl 3 rfl) ?_
        obtain ⟨g7, hf⟩ := gd hf
        refine r_iast C0 hH g7 dX9_sheet_36 (fun H locs hH => ?_)
        refine lv_iconst (v := (0 : Int32)) hx hb dX9_sheet_37 (by decide) ?_
        refine lv_istore (lv' := [(4, .int (0 : Int32)), (0, .ref (ad Γ.2.2.1 p0)), (1, .int v1), (2, .int v2), (3, .int v3)]) hx hb dX9_sheet_38 hl (by decide) rfl (fun ls hl => ?_)
        refine w_X9_sheet_L40 C0 hr hlocks p0 v1 FU (0 : Int32) (pI (pI d q4 (v1).toNatClampNeg v2) q6 (v1).toNatClampNeg v3) hf _ _ _ hH (lv_sub hl [1, 2, 0] rfl)
      · replace hf := ie hf c3
        refine lv_bipush (v := (-14 : Int32)) hx hb dX9_sheet_20 (by decide) ?_
        obtain rfl := Option.some.inj hf
        exact r_iret (d' := d) C0 hr hlocks hH rfl dX9_sheet_22
    · replace hf := ie hf c2
      refine lv_iconst (v := (-1 : Int32)) hx hb dX9_sheet_14 (by decide) ?_
      obtain rfl := Option.some.inj hf
      exact r_iret (d' := d) C0 hr hlocks hH rfl dX9_sheet_15
